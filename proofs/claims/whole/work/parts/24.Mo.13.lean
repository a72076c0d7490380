theorem d_Mo_findFlaw_0 : decode b_Mo_findFlaw 0 = .ok (.aload_n 0, 1) := by decide +kernel
theorem d_Mo_findFlaw_1 : decode b_Mo_findFlaw 1 = .ok (.invokevirtual 191, 3) := by decide +kernel
theorem d_Mo_findFlaw_4 : decode b_Mo_findFlaw 4 = .ok (.aload_n 0, 1) := by decide +kernel
theorem d_Mo_findFlaw_5 : decode b_Mo_findFlaw 5 = .ok (.iconst (-1), 1) := by decide +kernel
theorem d_Mo_findFlaw_6 : decode b_Mo_findFlaw 6 = .ok (.putfield 215, 3) := by decide +kernel
theorem d_Mo_findFlaw_9 : decode b_Mo_findFlaw 9 = .ok (.aload_n 0, 1) := by decide +kernel
theorem d_Mo_findFlaw_10 : decode b_Mo_findFlaw 10 = .ok (.iconst (-1), 1) := by decide +kernel
theorem d_Mo_findFlaw_11 : decode b_Mo_findFlaw 11 = .ok (.putfield 218, 3) := by decide +kernel
theorem d_Mo_findFlaw_14 : decode b_Mo_findFlaw 14 = .ok (.aload_n 0, 1) := by decide +kernel
theorem d_Mo_findFlaw_15 : decode b_Mo_findFlaw 15 = .ok (.aload_n 0, 1) := by decide +kernel
theorem d_Mo_findFlaw_16 : decode b_Mo_findFlaw 16 = .ok (.getfield 109, 3) := by decide +kernel
theorem d_Mo_findFlaw_19 : decode b_Mo_findFlaw 19 = .ok (.invokevirtual 221, 3) := by decide +kernel
theorem d_Mo_findFlaw_22 : decode b_Mo_findFlaw 22 = .ok (.ifCond .ne 5, 3) := by decide +kernel
theorem d_Mo_findFlaw_25 : decode b_Mo_findFlaw 25 = .ok (.iconst 1, 1) := by decide +kernel
theorem d_Mo_findFlaw_26 : decode b_Mo_findFlaw 26 = .ok (.ireturn, 1) := by decide +kernel
theorem d_Mo_findFlaw_27 : decode b_Mo_findFlaw 27 = .ok (.iconst 0, 1) := by decide +kernel
theorem d_Mo_findFlaw_28 : decode b_Mo_findFlaw 28 = .ok (.istore_n 1, 1) := by decide +kernel
theorem d_Mo_findFlaw_29 : decode b_Mo_findFlaw 29 = .ok (.iload_n 1, 1) := by decide +kernel
theorem d_Mo_findFlaw_30 : decode b_Mo_findFlaw 30 = .ok (.aload_n 0, 1) := by decide +kernel
theorem d_Mo_findFlaw_31 : decode b_Mo_findFlaw 31 = .ok (.getfield 157, 3) := by decide +kernel
theorem d_Mo_findFlaw_34 : decode b_Mo_findFlaw 34 = .ok (.if_icmp .ge 20, 3) := by decide +kernel
theorem d_Mo_findFlaw_37 : decode b_Mo_findFlaw 37 = .ok (.aload_n 0, 1) := by decide +kernel
theorem d_Mo_findFlaw_38 : decode b_Mo_findFlaw 38 = .ok (.getfield 92, 3) := by decide +kernel
theorem d_Mo_findFlaw_41 : decode b_Mo_findFlaw 41 = .ok (.iload_n 1, 1) := by decide +kernel
theorem d_Mo_findFlaw_42 : decode b_Mo_findFlaw 42 = .ok (.aload_n 0, 1) := by decide +kernel
theorem d_Mo_findFlaw_43 : decode b_Mo_findFlaw 43 = .ok (.iload_n 1, 1) := by decide +kernel
theorem d_Mo_findFlaw_44 : decode b_Mo_findFlaw 44 = .ok (.invokevirtual 221, 3) := by decide +kernel
theorem d_Mo_findFlaw_47 : decode b_Mo_findFlaw 47 = .ok (.bastore, 1) := by decide +kernel
theorem d_Mo_findFlaw_48 : decode b_Mo_findFlaw 48 = .ok (.iinc 1 1, 3) := by decide +kernel
theorem d_Mo_findFlaw_51 : decode b_Mo_findFlaw 51 = .ok (.goto (-22), 3) := by decide +kernel
theorem d_Mo_findFlaw_54 : decode b_Mo_findFlaw 54 = .ok (.iconst 0, 1) := by decide +kernel
theorem d_Mo_findFlaw_55 : decode b_Mo_findFlaw 55 = .ok (.istore_n 1, 1) := by decide +kernel
theorem d_Mo_findFlaw_56 : decode b_Mo_findFlaw 56 = .ok (.iload_n 1, 1) := by decide +kernel
theorem d_Mo_findFlaw_57 : decode b_Mo_findFlaw 57 = .ok (.aload_n 0, 1) := by decide +kernel
theorem d_Mo_findFlaw_58 : decode b_Mo_findFlaw 58 = .ok (.getfield 157, 3) := by decide +kernel
theorem d_Mo_findFlaw_61 : decode b_Mo_findFlaw 61 = .ok (.if_icmp .ge 74, 3) := by decide +kernel
theorem d_Mo_findFlaw_64 : decode b_Mo_findFlaw 64 = .ok (.iconst 0, 1) := by decide +kernel
theorem d_Mo_findFlaw_65 : decode b_Mo_findFlaw 65 = .ok (.istore_n 2, 1) := by decide +kernel
theorem d_Mo_findFlaw_66 : decode b_Mo_findFlaw 66 = .ok (.iload_n 2, 1) := by decide +kernel
theorem d_Mo_findFlaw_67 : decode b_Mo_findFlaw 67 = .ok (.iconst 3, 1) := by decide +kernel
theorem d_Mo_findFlaw_68 : decode b_Mo_findFlaw 68 = .ok (.aload_n 0, 1) := by decide +kernel
theorem d_Mo_findFlaw_69 : decode b_Mo_findFlaw 69 = .ok (.getfield 112, 3) := by decide +kernel
theorem d_Mo_findFlaw_72 : decode b_Mo_findFlaw 72 = .ok (.imul, 1) := by decide +kernel
theorem d_Mo_findFlaw_73 : decode b_Mo_findFlaw 73 = .ok (.if_icmp .ge 56, 3) := by decide +kernel
theorem d_Mo_findFlaw_76 : decode b_Mo_findFlaw 76 = .ok (.aload_n 0, 1) := by decide +kernel
theorem d_Mo_findFlaw_77 : decode b_Mo_findFlaw 77 = .ok (.getfield 92, 3) := by decide +kernel
theorem d_Mo_findFlaw_80 : decode b_Mo_findFlaw 80 = .ok (.iload_n 1, 1) := by decide +kernel
theorem d_Mo_findFlaw_81 : decode b_Mo_findFlaw 81 = .ok (.baload, 1) := by decide +kernel
theorem d_Mo_findFlaw_82 : decode b_Mo_findFlaw 82 = .ok (.ifCond .eq 47, 3) := by decide +kernel
theorem d_Mo_findFlaw_85 : decode b_Mo_findFlaw 85 = .ok (.aload_n 0, 1) := by decide +kernel
theorem d_Mo_findFlaw_86 : decode b_Mo_findFlaw 86 = .ok (.getfield 35, 3) := by decide +kernel
theorem d_Mo_findFlaw_89 : decode b_Mo_findFlaw 89 = .ok (.bipush 36, 2) := by decide +kernel
theorem d_Mo_findFlaw_91 : decode b_Mo_findFlaw 91 = .ok (.iload_n 1, 1) := by decide +kernel
theorem d_Mo_findFlaw_92 : decode b_Mo_findFlaw 92 = .ok (.imul, 1) := by decide +kernel
theorem d_Mo_findFlaw_93 : decode b_Mo_findFlaw 93 = .ok (.iload_n 2, 1) := by decide +kernel
theorem d_Mo_findFlaw_94 : decode b_Mo_findFlaw 94 = .ok (.iadd, 1) := by decide +kernel
theorem d_Mo_findFlaw_95 : decode b_Mo_findFlaw 95 = .ok (.iaload, 1) := by decide +kernel
theorem d_Mo_findFlaw_96 : decode b_Mo_findFlaw 96 = .ok (.istore_n 3, 1) := by decide +kernel
theorem d_Mo_findFlaw_97 : decode b_Mo_findFlaw 97 = .ok (.iload_n 3, 1) := by decide +kernel
theorem d_Mo_findFlaw_98 : decode b_Mo_findFlaw 98 = .ok (.iconst (-1), 1) := by decide +kernel
theorem d_Mo_findFlaw_99 : decode b_Mo_findFlaw 99 = .ok (.if_icmp .eq 24, 3) := by decide +kernel
theorem d_Mo_findFlaw_102 : decode b_Mo_findFlaw 102 = .ok (.aload_n 0, 1) := by decide +kernel
theorem d_Mo_findFlaw_103 : decode b_Mo_findFlaw 103 = .ok (.getfield 92, 3) := by decide +kernel
theorem d_Mo_findFlaw_106 : decode b_Mo_findFlaw 106 = .ok (.iload_n 3, 1) := by decide +kernel
theorem d_Mo_findFlaw_107 : decode b_Mo_findFlaw 107 = .ok (.baload, 1) := by decide +kernel
theorem d_Mo_findFlaw_108 : decode b_Mo_findFlaw 108 = .ok (.ifCond .ne 15, 3) := by decide +kernel
theorem d_Mo_findFlaw_111 : decode b_Mo_findFlaw 111 = .ok (.aload_n 0, 1) := by decide +kernel
theorem d_Mo_findFlaw_112 : decode b_Mo_findFlaw 112 = .ok (.iload_n 1, 1) := by decide +kernel
theorem d_Mo_findFlaw_113 : decode b_Mo_findFlaw 113 = .ok (.putfield 215, 3) := by decide +kernel
theorem d_Mo_findFlaw_116 : decode b_Mo_findFlaw 116 = .ok (.aload_n 0, 1) := by decide +kernel
theorem d_Mo_findFlaw_117 : decode b_Mo_findFlaw 117 = .ok (.iload_n 2, 1) := by decide +kernel
theorem d_Mo_findFlaw_118 : decode b_Mo_findFlaw 118 = .ok (.putfield 218, 3) := by decide +kernel
theorem d_Mo_findFlaw_121 : decode b_Mo_findFlaw 121 = .ok (.iconst 2, 1) := by decide +kernel
theorem d_Mo_findFlaw_122 : decode b_Mo_findFlaw 122 = .ok (.ireturn, 1) := by decide +kernel
theorem d_Mo_findFlaw_123 : decode b_Mo_findFlaw 123 = .ok (.iinc 2 1, 3) := by decide +kernel
theorem d_Mo_findFlaw_126 : decode b_Mo_findFlaw 126 = .ok (.goto (-60), 3) := by decide +kernel
theorem d_Mo_findFlaw_129 : decode b_Mo_findFlaw 129 = .ok (.iinc 1 1, 3) := by decide +kernel
theorem d_Mo_findFlaw_132 : decode b_Mo_findFlaw 132 = .ok (.goto (-76), 3) := by decide +kernel
theorem d_Mo_findFlaw_135 : decode b_Mo_findFlaw 135 = .ok (.iconst 0, 1) := by decide +kernel
theorem d_Mo_findFlaw_136 : decode b_Mo_findFlaw 136 = .ok (.istore_n 1, 1) := by decide +kernel
theorem d_Mo_findFlaw_137 : decode b_Mo_findFlaw 137 = .ok (.iload_n 1, 1) := by decide +kernel
theorem d_Mo_findFlaw_138 : decode b_Mo_findFlaw 138 = .ok (.aload_n 0, 1) := by decide +kernel
theorem d_Mo_findFlaw_139 : decode b_Mo_findFlaw 139 = .ok (.getfield 157, 3) := by decide +kernel
theorem d_Mo_findFlaw_142 : decode b_Mo_findFlaw 142 = .ok (.if_icmp .ge 34, 3) := by decide +kernel
theorem d_Mo_findFlaw_145 : decode b_Mo_findFlaw 145 = .ok (.aload_n 0, 1) := by decide +kernel
theorem d_Mo_findFlaw_146 : decode b_Mo_findFlaw 146 = .ok (.getfield 92, 3) := by decide +kernel
theorem d_Mo_findFlaw_149 : decode b_Mo_findFlaw 149 = .ok (.iload_n 1, 1) := by decide +kernel
theorem d_Mo_findFlaw_150 : decode b_Mo_findFlaw 150 = .ok (.baload, 1) := by decide +kernel
theorem d_Mo_findFlaw_151 : decode b_Mo_findFlaw 151 = .ok (.ifCond .eq 19, 3) := by decide +kernel
theorem d_Mo_findFlaw_154 : decode b_Mo_findFlaw 154 = .ok (.aload_n 0, 1) := by decide +kernel
theorem d_Mo_findFlaw_155 : decode b_Mo_findFlaw 155 = .ok (.getfield 38, 3) := by decide +kernel
theorem d_Mo_findFlaw_158 : decode b_Mo_findFlaw 158 = .ok (.iload_n 1, 1) := by decide +kernel
theorem d_Mo_findFlaw_159 : decode b_Mo_findFlaw 159 = .ok (.baload, 1) := by decide +kernel
theorem d_Mo_findFlaw_160 : decode b_Mo_findFlaw 160 = .ok (.ifCond .eq 10, 3) := by decide +kernel
theorem d_Mo_findFlaw_163 : decode b_Mo_findFlaw 163 = .ok (.aload_n 0, 1) := by decide +kernel
theorem d_Mo_findFlaw_164 : decode b_Mo_findFlaw 164 = .ok (.iload_n 1, 1) := by decide +kernel
theorem d_Mo_findFlaw_165 : decode b_Mo_findFlaw 165 = .ok (.putfield 215, 3) := by decide +kernel
theorem d_Mo_findFlaw_168 : decode b_Mo_findFlaw 168 = .ok (.iconst 3, 1) := by decide +kernel
theorem d_Mo_findFlaw_169 : decode b_Mo_findFlaw 169 = .ok (.ireturn, 1) := by decide +kernel
theorem d_Mo_findFlaw_170 : decode b_Mo_findFlaw 170 = .ok (.iinc 1 1, 3) := by decide +kernel
theorem d_Mo_findFlaw_173 : decode b_Mo_findFlaw 173 = .ok (.goto (-36), 3) := by decide +kernel
theorem d_Mo_findFlaw_176 : decode b_Mo_findFlaw 176 = .ok (.iconst 0, 1) := by decide +kernel
theorem d_Mo_findFlaw_177 : decode b_Mo_findFlaw 177 = .ok (.ireturn, 1) := by decide +kernel
set_option maxRecDepth 100000 in
set_option maxHeartbeats 4000000 in
theorem S_Mo_findFlaw_0 {G : Gc} {M : Mc} {Q : State → Prop} {K : Option Value → Hp → Prop} (hG : gok G) (hM : mok G M r_Mo_findFlaw Q K) (v0 : Nat) (h : Hp) (F : kT h v0 = 12 ∧ sem G r_Mo_lay [.ref v0] h (fun u2 h1 => u2 = none ∧ (kT h1 v0 = 12 ∧ (∀ h3 : Hp, h3 = wI h1 v0 35 (-1) → (kT h3 v0 = 12 ∧ (∀ h4 : Hp, h4 = wI h3 v0 36 (-1) → (kT h4 v0 = 12 ∧ (kT h4 v0 = 12 ∧ sem G r_Mo_isCovered [.ref v0, .int (kI h4 v0 2)] h4 (fun u6 h5 => ∃ x7 : Int32, u6 = some (.int x7) ∧ ((x7 = 0 → K (some (.int 1)) h5) ∧ (¬ x7 = 0 → X G M Q 29 [(0, .ref v0), (1, .int 0)] [] h5))))))))))) : X G M Q 0 [(0, .ref v0)] [] h := by
  refine x_aload_n hM d_Mo_findFlaw_0 rfl 0 rfl ?_
  obtain ⟨c13, F⟩ := F
  refine x_callV hG hM (r' := r_Mo_lay) (ci := 11) [] rfl rfl (Nat.le_of_ble_eq_true rfl) yk_Mo_lay ⟨Nat.le_of_ble_eq_true rfl, Nat.le_of_ble_eq_true rfl⟩ w_1112 w_1114 ws_Mo_lay rfl rfl (Nat.le_of_ble_eq_true rfl) d_Mo_findFlaw_1 c13 (sem_mono F ?_)
  intro u2 h1 F
  obtain ⟨rfl, F⟩ := F
  refine x_aload_n hM d_Mo_findFlaw_4 rfl 0 rfl ?_
  refine x_iconst (v := (-1)) hM d_Mo_findFlaw_5 (by decide) ?_
  obtain ⟨c12, F⟩ := F
  obtain ⟨h3, eh3⟩ : ∃ z : Hp, z = wI h1 v0 35 (-1) := ⟨_, rfl⟩
  replace F := F h3 eh3
  refine x_puti hG hM ck_Mo 35 (Nat.le_of_ble_eq_true rfl) rfl rfl w_932 rfl d_Mo_findFlaw_6 (Or.inl rfl) c12 ?_
  rw [← eh3]
  clear eh3
  refine x_aload_n hM d_Mo_findFlaw_9 rfl 0 rfl ?_
  refine x_iconst (v := (-1)) hM d_Mo_findFlaw_10 (by decide) ?_
  obtain ⟨c11, F⟩ := F
  obtain ⟨h4, eh4⟩ : ∃ z : Hp, z = wI h3 v0 36 (-1) := ⟨_, rfl⟩
  replace F := F h4 eh4
  refine x_puti hG hM ck_Mo 36 (Nat.le_of_ble_eq_true rfl) rfl rfl w_933 rfl d_Mo_findFlaw_11 (Or.inl rfl) c11 ?_
  rw [← eh4]
  clear eh4
  refine x_aload_n hM d_Mo_findFlaw_14 rfl 0 rfl ?_
  refine x_aload_n hM d_Mo_findFlaw_15 rfl 0 rfl ?_
  obtain ⟨c10, F⟩ := F
  refine x_geti hG hM ck_Mo 2 (Nat.le_of_ble_eq_true rfl) rfl rfl w_899 rfl d_Mo_findFlaw_16 c10 ?_
  obtain ⟨c9, F⟩ := F
  refine x_callV hG hM (r' := r_Mo_isCovered) (ci := 11) [.int (kI h4 v0 2)] rfl rfl (Nat.le_of_ble_eq_true rfl) yk_Mo_isCovered ⟨Nat.le_of_ble_eq_true rfl, Nat.le_of_ble_eq_true rfl⟩ w_1205 w_1207 ws_Mo_isCovered rfl rfl (Nat.le_of_ble_eq_true rfl) d_Mo_findFlaw_19 c9 (sem_mono F ?_)
  intro u6 h5 F
  obtain ⟨x7, rfl, F⟩ := F
  refine x_if_ne (tgt := 27) hM d_Mo_findFlaw_22 (by decide) (fun q8 => ?_) (fun q8 => ?_)
  · replace F := F.2 q8
    refine x_iconst (v := 0) hM d_Mo_findFlaw_27 (by decide) ?_
    refine x_istore_n (lv2 := [(1, .int 0), (0, .ref v0)]) hM d_Mo_findFlaw_28 rfl (Nat.le_of_ble_eq_true rfl) rfl ?_
    refine x_sub [1, 0] rfl ?_
    exact F
  · replace F := F.1 q8
    refine x_iconst (v := 1) hM d_Mo_findFlaw_25 (by decide) ?_
    exact x_ireturn hM d_Mo_findFlaw_26 rfl F
set_option maxRecDepth 100000 in
set_option maxHeartbeats 4000000 in
theorem S_Mo_findFlaw_29 {G : Gc} {M : Mc} {Q : State → Prop} {K : Option Value → Hp → Prop} (hG : gok G) (hM : mok G M r_Mo_findFlaw Q K) (v0 : Nat) (v1 : Int32) (h : Hp) (F : kT h v0 = 12 ∧ (((kI h v0 13) ≤ v1 → X G M Q 56 [(0, .ref v0), (1, .int 0)] [] h) ∧ (¬ (kI h v0 13) ≤ v1 → (kT h v0 = 12 ∧ kR h v0 34 = some (rf h v0 34) ∧ (kT h v0 = 12 ∧ sem G r_Mo_isCovered [.ref v0, .int v1] h (fun u2 h1 => ∃ x3 : Int32, u2 = some (.int x3) ∧ (kT h1 (rf h v0 34) = 51 ∧ vp_in v1 (kN h1 (rf h v0 34)) ∧ nb x3 ∧ (∀ h4 : Hp, h4 = wI h1 (rf h v0 34) (Int32.toNatClampNeg v1) x3 → X G M Q 29 [(0, .ref v0), (1, .int (v1 + 1))] [] h4)))))))) : X G M Q 29 [(0, .ref v0), (1, .int v1)] [] h := by
  refine x_iload_n hM d_Mo_findFlaw_29 rfl 1 rfl ?_
  refine x_aload_n hM d_Mo_findFlaw_30 rfl 0 rfl ?_
  obtain ⟨c12, F⟩ := F
  refine x_geti hG hM ck_Mo 13 (Nat.le_of_ble_eq_true rfl) rfl rfl w_910 rfl d_Mo_findFlaw_31 c12 ?_
  refine x_icmp_ge (tgt := 54) hM d_Mo_findFlaw_34 (by decide) (fun q11 => ?_) (fun q11 => ?_)
  · replace F := F.1 q11
    refine x_iconst (v := 0) hM d_Mo_findFlaw_54 (by decide) ?_
    refine x_istore_n (lv2 := [(1, .int 0), (0, .ref v0)]) hM d_Mo_findFlaw_55 rfl (Nat.le_of_ble_eq_true rfl) rfl ?_
    refine x_sub [1, 0] rfl ?_
    exact F
  · replace F := F.2 q11
    refine x_aload_n hM d_Mo_findFlaw_37 rfl 0 rfl ?_
    obtain ⟨c9, F⟩ := F
    obtain ⟨c10, F⟩ := F
    refine x_getr hG hM ck_Mo 34 (Nat.le_of_ble_eq_true rfl) rfl rfl w_931 rfl d_Mo_findFlaw_38 c9 c10 ?_
    refine x_iload_n hM d_Mo_findFlaw_41 rfl 1 rfl ?_
    refine x_aload_n hM d_Mo_findFlaw_42 rfl 0 rfl ?_
    refine x_iload_n hM d_Mo_findFlaw_43 rfl 1 rfl ?_
    obtain ⟨c8, F⟩ := F
    refine x_callV hG hM (r' := r_Mo_isCovered) (ci := 11) [.int v1] rfl rfl (Nat.le_of_ble_eq_true rfl) yk_Mo_isCovered ⟨Nat.le_of_ble_eq_true rfl, Nat.le_of_ble_eq_true rfl⟩ w_1205 w_1207 ws_Mo_isCovered rfl rfl (Nat.le_of_ble_eq_true rfl) d_Mo_findFlaw_44 c8 (sem_mono F ?_)
    intro u2 h1 F
    obtain ⟨x3, rfl, F⟩ := F
    obtain ⟨c5, F⟩ := F
    obtain ⟨c6, F⟩ := F
    obtain ⟨c7, F⟩ := F
    obtain ⟨h4, eh4⟩ : ∃ z : Hp, z = wI h1 (rf h v0 34) (Int32.toNatClampNeg v1) x3 := ⟨_, rfl⟩
    replace F := F h4 eh4
    refine x_zastore hG hM d_Mo_findFlaw_47 c5 c6 c7 ?_
    rw [← eh4]
    clear eh4
    refine x_iinc (v := (v1 + 1)) (lv2 := [(1, .int (v1 + 1)), (0, .ref v0)]) hM d_Mo_findFlaw_48 (j := 1) rfl rfl (Nat.le_of_ble_eq_true rfl) rfl ?_
    refine x_goto (tgt := 29) hM d_Mo_findFlaw_51 (by decide) ?_
    refine x_sub [1, 0] rfl ?_
    exact F
set_option maxRecDepth 100000 in
set_option maxHeartbeats 4000000 in
theorem S_Mo_findFlaw_56 {G : Gc} {M : Mc} {Q : State → Prop} {K : Option Value → Hp → Prop} (hG : gok G) (hM : mok G M r_Mo_findFlaw Q K) (v0 : Nat) (v1 : Int32) (h : Hp) (F : kT h v0 = 12 ∧ (((kI h v0 13) ≤ v1 → X G M Q 137 [(0, .ref v0), (1, .int 0)] [] h) ∧ (¬ (kI h v0 13) ≤ v1 → X G M Q 66 [(0, .ref v0), (1, .int v1), (2, .int 0)] [] h))) : X G M Q 56 [(0, .ref v0), (1, .int v1)] [] h := by
  refine x_iload_n hM d_Mo_findFlaw_56 rfl 1 rfl ?_
  refine x_aload_n hM d_Mo_findFlaw_57 rfl 0 rfl ?_
  obtain ⟨c2, F⟩ := F
  refine x_geti hG hM ck_Mo 13 (Nat.le_of_ble_eq_true rfl) rfl rfl w_910 rfl d_Mo_findFlaw_58 c2 ?_
  refine x_icmp_ge (tgt := 135) hM d_Mo_findFlaw_61 (by decide) (fun q1 => ?_) (fun q1 => ?_)
  · replace F := F.1 q1
    refine x_iconst (v := 0) hM d_Mo_findFlaw_135 (by decide) ?_
    refine x_istore_n (lv2 := [(1, .int 0), (0, .ref v0)]) hM d_Mo_findFlaw_136 rfl (Nat.le_of_ble_eq_true rfl) rfl ?_
    refine x_sub [1, 0] rfl ?_
    exact F
  · replace F := F.2 q1
    refine x_iconst (v := 0) hM d_Mo_findFlaw_64 (by decide) ?_
    refine x_istore_n (lv2 := [(2, .int 0), (0, .ref v0), (1, .int v1)]) hM d_Mo_findFlaw_65 rfl (Nat.le_of_ble_eq_true rfl) rfl ?_
    refine x_sub [1, 2, 0] rfl ?_
    exact F
set_option maxRecDepth 100000 in
set_option maxHeartbeats 4000000 in
theorem S_Mo_findFlaw_66 {G : Gc} {M : Mc} {Q : State → Prop} {K : Option Value → Hp → Prop} (hG : gok G) (hM : mok G M r_Mo_findFlaw Q K) (v0 : Nat) (v1 : Int32) (v2 : Int32) (h : Hp) (F : kT h v0 = 12 ∧ (((3 * (kI h v0 3)) ≤ v2 → X G M Q 56 [(0, .ref v0), (1, .int (v1 + 1))] [] h) ∧ (¬ (3 * (kI h v0 3)) ≤ v2 → (kT h v0 = 12 ∧ kR h v0 34 = some (rf h v0 34) ∧ (kT h (rf h v0 34) = 51 ∧ vp_in v1 (kN h (rf h v0 34)) ∧ (((kI h (rf h v0 34) (Int32.toNatClampNeg v1)) = 0 → X G M Q 56 [(0, .ref v0), (1, .int (v1 + 1))] [] h) ∧ (¬ (kI h (rf h v0 34) (Int32.toNatClampNeg v1)) = 0 → (kT h v0 = 12 ∧ kR h v0 14 = some (rf h v0 14) ∧ (kT h (rf h v0 14) = 50 ∧ vp_in ((36 * v1) + v2) (kN h (rf h v0 14)) ∧ (((kI h (rf h v0 14) (Int32.toNatClampNeg ((36 * v1) + v2))) = (-1) → X G M Q 66 [(0, .ref v0), (1, .int v1), (2, .int (v2 + 1))] [] h) ∧ (¬ (kI h (rf h v0 14) (Int32.toNatClampNeg ((36 * v1) + v2))) = (-1) → (kT h v0 = 12 ∧ kR h v0 34 = some (rf h v0 34) ∧ (kT h (rf h v0 34) = 51 ∧ vp_in (kI h (rf h v0 14) (Int32.toNatClampNeg ((36 * v1) + v2))) (kN h (rf h v0 34)) ∧ (((kI h (rf h v0 34) (Int32.toNatClampNeg (kI h (rf h v0 14) (Int32.toNatClampNeg ((36 * v1) + v2))))) = 0 → (kT h v0 = 12 ∧ (∀ h1 : Hp, h1 = wI h v0 35 v1 → (kT h1 v0 = 12 ∧ (∀ h2 : Hp, h2 = wI h1 v0 36 v2 → K (some (.int 2)) h2))))) ∧ (¬ (kI h (rf h v0 34) (Int32.toNatClampNeg (kI h (rf h v0 14) (Int32.toNatClampNeg ((36 * v1) + v2))))) = 0 → X G M Q 66 [(0, .ref v0), (1, .int v1), (2, .int (v2 + 1))] [] h))))))))))))))) : X G M Q 66 [(0, .ref v0), (1, .int v1), (2, .int v2)] [] h := by
  refine x_iload_n hM d_Mo_findFlaw_66 rfl 2 rfl ?_
  refine x_iconst (v := 3) hM d_Mo_findFlaw_67 (by decide) ?_
  refine x_aload_n hM d_Mo_findFlaw_68 rfl 0 rfl ?_
  obtain ⟨c21, F⟩ := F
  refine x_geti hG hM ck_Mo 3 (Nat.le_of_ble_eq_true rfl) rfl rfl w_900 rfl d_Mo_findFlaw_69 c21 ?_
  refine x_imul hM d_Mo_findFlaw_72 ?_
  refine x_icmp_ge (tgt := 129) hM d_Mo_findFlaw_73 (by decide) (fun q20 => ?_) (fun q20 => ?_)
  · replace F := F.1 q20
    refine x_iinc (v := (v1 + 1)) (lv2 := [(1, .int (v1 + 1)), (0, .ref v0), (2, .int v2)]) hM d_Mo_findFlaw_129 (j := 1) rfl rfl (Nat.le_of_ble_eq_true rfl) rfl ?_
    refine x_goto (tgt := 56) hM d_Mo_findFlaw_132 (by decide) ?_
    refine x_sub [1, 0] rfl ?_
    exact F
  · replace F := F.2 q20
    refine x_aload_n hM d_Mo_findFlaw_76 rfl 0 rfl ?_
    obtain ⟨c18, F⟩ := F
    obtain ⟨c19, F⟩ := F
    refine x_getr hG hM ck_Mo 34 (Nat.le_of_ble_eq_true rfl) rfl rfl w_931 rfl d_Mo_findFlaw_77 c18 c19 ?_
    refine x_iload_n hM d_Mo_findFlaw_80 rfl 1 rfl ?_
    obtain ⟨c16, F⟩ := F
    obtain ⟨c17, F⟩ := F
    refine x_zaload hG hM d_Mo_findFlaw_81 c16 c17 ?_
    refine x_if_eq (tgt := 129) hM d_Mo_findFlaw_82 (by decide) (fun q15 => ?_) (fun q15 => ?_)
    · replace F := F.1 q15
      refine x_iinc (v := (v1 + 1)) (lv2 := [(1, .int (v1 + 1)), (0, .ref v0), (2, .int v2)]) hM d_Mo_findFlaw_129 (j := 1) rfl rfl (Nat.le_of_ble_eq_true rfl) rfl ?_
      refine x_goto (tgt := 56) hM d_Mo_findFlaw_132 (by decide) ?_
      refine x_sub [1, 0] rfl ?_
      exact F
    · replace F := F.2 q15
      refine x_aload_n hM d_Mo_findFlaw_85 rfl 0 rfl ?_
      obtain ⟨c13, F⟩ := F
      obtain ⟨c14, F⟩ := F
      refine x_getr hG hM ck_Mo 14 (Nat.le_of_ble_eq_true rfl) rfl rfl w_911 rfl d_Mo_findFlaw_86 c13 c14 ?_
      refine x_bipush (v := 36) hM d_Mo_findFlaw_89 (by decide) ?_
      refine x_iload_n hM d_Mo_findFlaw_91 rfl 1 rfl ?_
      refine x_imul hM d_Mo_findFlaw_92 ?_
      refine x_iload_n hM d_Mo_findFlaw_93 rfl 2 rfl ?_
      refine x_iadd hM d_Mo_findFlaw_94 ?_
      obtain ⟨c11, F⟩ := F
      obtain ⟨c12, F⟩ := F
      refine x_iaload hG hM d_Mo_findFlaw_95 c11 c12 ?_
      refine x_istore_n (lv2 := [(3, .int (kI h (rf h v0 14) (Int32.toNatClampNeg ((36 * v1) + v2)))), (0, .ref v0), (1, .int v1), (2, .int v2)]) hM d_Mo_findFlaw_96 rfl (Nat.le_of_ble_eq_true rfl) rfl ?_
      refine x_iload_n hM d_Mo_findFlaw_97 rfl 0 rfl ?_
      refine x_iconst (v := (-1)) hM d_Mo_findFlaw_98 (by decide) ?_
      refine x_icmp_eq (tgt := 123) hM d_Mo_findFlaw_99 (by decide) (fun q10 => ?_) (fun q10 => ?_)
      · replace F := F.1 q10
        refine x_iinc (v := (v2 + 1)) (lv2 := [(2, .int (v2 + 1)), (3, .int (kI h (rf h v0 14) (Int32.toNatClampNeg ((36 * v1) + v2)))), (0, .ref v0), (1, .int v1)]) hM d_Mo_findFlaw_123 (j := 3) rfl rfl (Nat.le_of_ble_eq_true rfl) rfl ?_
        refine x_goto (tgt := 66) hM d_Mo_findFlaw_126 (by decide) ?_
        refine x_sub [2, 3, 0] rfl ?_
        exact F
      · replace F := F.2 q10
        refine x_aload_n hM d_Mo_findFlaw_102 rfl 1 rfl ?_
        obtain ⟨c8, F⟩ := F
        obtain ⟨c9, F⟩ := F
        refine x_getr hG hM ck_Mo 34 (Nat.le_of_ble_eq_true rfl) rfl rfl w_931 rfl d_Mo_findFlaw_103 c8 c9 ?_
        refine x_iload_n hM d_Mo_findFlaw_106 rfl 0 rfl ?_
        obtain ⟨c6, F⟩ := F
        obtain ⟨c7, F⟩ := F
        refine x_zaload hG hM d_Mo_findFlaw_107 c6 c7 ?_
        refine x_if_ne (tgt := 123) hM d_Mo_findFlaw_108 (by decide) (fun q5 => ?_) (fun q5 => ?_)
        · replace F := F.2 q5
          refine x_iinc (v := (v2 + 1)) (lv2 := [(2, .int (v2 + 1)), (3, .int (kI h (rf h v0 14) (Int32.toNatClampNeg ((36 * v1) + v2)))), (0, .ref v0), (1, .int v1)]) hM d_Mo_findFlaw_123 (j := 3) rfl rfl (Nat.le_of_ble_eq_true rfl) rfl ?_
          refine x_goto (tgt := 66) hM d_Mo_findFlaw_126 (by decide) ?_
          refine x_sub [2, 3, 0] rfl ?_
          exact F
        · replace F := F.1 q5
          refine x_aload_n hM d_Mo_findFlaw_111 rfl 1 rfl ?_
          refine x_iload_n hM d_Mo_findFlaw_112 rfl 2 rfl ?_
          obtain ⟨c4, F⟩ := F
          obtain ⟨h1, eh1⟩ : ∃ z : Hp, z = wI h v0 35 v1 := ⟨_, rfl⟩
          replace F := F h1 eh1
          refine x_puti hG hM ck_Mo 35 (Nat.le_of_ble_eq_true rfl) rfl rfl w_932 rfl d_Mo_findFlaw_113 (Or.inl rfl) c4 ?_
          rw [← eh1]
          clear eh1
          refine x_aload_n hM d_Mo_findFlaw_116 rfl 1 rfl ?_
          refine x_iload_n hM d_Mo_findFlaw_117 rfl 3 rfl ?_
          obtain ⟨c3, F⟩ := F
          obtain ⟨h2, eh2⟩ : ∃ z : Hp, z = wI h1 v0 36 v2 := ⟨_, rfl⟩
          replace F := F h2 eh2
          refine x_puti hG hM ck_Mo 36 (Nat.le_of_ble_eq_true rfl) rfl rfl w_933 rfl d_Mo_findFlaw_118 (Or.inl rfl) c3 ?_
          rw [← eh2]
          clear eh2
          refine x_iconst (v := 2) hM d_Mo_findFlaw_121 (by decide) ?_
          exact x_ireturn hM d_Mo_findFlaw_122 rfl F
set_option maxRecDepth 100000 in
set_option maxHeartbeats 4000000 in
theorem S_Mo_findFlaw_137 {G : Gc} {M : Mc} {Q : State → Prop} {K : Option Value → Hp → Prop} (hG : gok G) (hM : mok G M r_Mo_findFlaw Q K) (v0 : Nat) (v1 : Int32) (h : Hp) (F : kT h v0 = 12 ∧ (((kI h v0 13) ≤ v1 → K (some (.int 0)) h) ∧ (¬ (kI h v0 13) ≤ v1 → (kT h v0 = 12 ∧ kR h v0 34 = some (rf h v0 34) ∧ (kT h (rf h v0 34) = 51 ∧ vp_in v1 (kN h (rf h v0 34)) ∧ (((kI h (rf h v0 34) (Int32.toNatClampNeg v1)) = 0 → X G M Q 137 [(0, .ref v0), (1, .int (v1 + 1))] [] h) ∧ (¬ (kI h (rf h v0 34) (Int32.toNatClampNeg v1)) = 0 → (kT h v0 = 12 ∧ kR h v0 15 = some (rf h v0 15) ∧ (kT h (rf h v0 15) = 51 ∧ vp_in v1 (kN h (rf h v0 15)) ∧ (((kI h (rf h v0 15) (Int32.toNatClampNeg v1)) = 0 → X G M Q 137 [(0, .ref v0), (1, .int (v1 + 1))] [] h) ∧ (¬ (kI h (rf h v0 15) (Int32.toNatClampNeg v1)) = 0 → (kT h v0 = 12 ∧ (∀ h1 : Hp, h1 = wI h v0 35 v1 → K (some (.int 3)) h1))))))))))))) : X G M Q 137 [(0, .ref v0), (1, .int v1)] [] h := by
  refine x_iload_n hM d_Mo_findFlaw_137 rfl 1 rfl ?_
  refine x_aload_n hM d_Mo_findFlaw_138 rfl 0 rfl ?_
  obtain ⟨c14, F⟩ := F
  refine x_geti hG hM ck_Mo 13 (Nat.le_of_ble_eq_true rfl) rfl rfl w_910 rfl d_Mo_findFlaw_139 c14 ?_
  refine x_icmp_ge (tgt := 176) hM d_Mo_findFlaw_142 (by decide) (fun q13 => ?_) (fun q13 => ?_)
  · replace F := F.1 q13
    refine x_iconst (v := 0) hM d_Mo_findFlaw_176 (by decide) ?_
    exact x_ireturn hM d_Mo_findFlaw_177 rfl F
  · replace F := F.2 q13
    refine x_aload_n hM d_Mo_findFlaw_145 rfl 0 rfl ?_
    obtain ⟨c11, F⟩ := F
    obtain ⟨c12, F⟩ := F
    refine x_getr hG hM ck_Mo 34 (Nat.le_of_ble_eq_true rfl) rfl rfl w_931 rfl d_Mo_findFlaw_146 c11 c12 ?_
    refine x_iload_n hM d_Mo_findFlaw_149 rfl 1 rfl ?_
    obtain ⟨c9, F⟩ := F
    obtain ⟨c10, F⟩ := F
    refine x_zaload hG hM d_Mo_findFlaw_150 c9 c10 ?_
    refine x_if_eq (tgt := 170) hM d_Mo_findFlaw_151 (by decide) (fun q8 => ?_) (fun q8 => ?_)
    · replace F := F.1 q8
      refine x_iinc (v := (v1 + 1)) (lv2 := [(1, .int (v1 + 1)), (0, .ref v0)]) hM d_Mo_findFlaw_170 (j := 1) rfl rfl (Nat.le_of_ble_eq_true rfl) rfl ?_
      refine x_goto (tgt := 137) hM d_Mo_findFlaw_173 (by decide) ?_
      refine x_sub [1, 0] rfl ?_
      exact F
    · replace F := F.2 q8
      refine x_aload_n hM d_Mo_findFlaw_154 rfl 0 rfl ?_
      obtain ⟨c6, F⟩ := F
      obtain ⟨c7, F⟩ := F
      refine x_getr hG hM ck_Mo 15 (Nat.le_of_ble_eq_true rfl) rfl rfl w_912 rfl d_Mo_findFlaw_155 c6 c7 ?_
      refine x_iload_n hM d_Mo_findFlaw_158 rfl 1 rfl ?_
      obtain ⟨c4, F⟩ := F
      obtain ⟨c5, F⟩ := F
      refine x_zaload hG hM d_Mo_findFlaw_159 c4 c5 ?_
      refine x_if_eq (tgt := 170) hM d_Mo_findFlaw_160 (by decide) (fun q3 => ?_) (fun q3 => ?_)
      · replace F := F.1 q3
        refine x_iinc (v := (v1 + 1)) (lv2 := [(1, .int (v1 + 1)), (0, .ref v0)]) hM d_Mo_findFlaw_170 (j := 1) rfl rfl (Nat.le_of_ble_eq_true rfl) rfl ?_
        refine x_goto (tgt := 137) hM d_Mo_findFlaw_173 (by decide) ?_
        refine x_sub [1, 0] rfl ?_
        exact F
      · replace F := F.2 q3
        refine x_aload_n hM d_Mo_findFlaw_163 rfl 0 rfl ?_
        refine x_iload_n hM d_Mo_findFlaw_164 rfl 1 rfl ?_
        obtain ⟨c2, F⟩ := F
        obtain ⟨h1, eh1⟩ : ∃ z : Hp, z = wI h v0 35 v1 := ⟨_, rfl⟩
        replace F := F h1 eh1
        refine x_puti hG hM ck_Mo 35 (Nat.le_of_ble_eq_true rfl) rfl rfl w_932 rfl d_Mo_findFlaw_165 (Or.inl rfl) c2 ?_
        rw [← eh1]
        clear eh1
        refine x_iconst (v := 3) hM d_Mo_findFlaw_168 (by decide) ?_
        exact x_ireturn hM d_Mo_findFlaw_169 rfl F
theorem d_Mo_isCovered_0 : decode b_Mo_isCovered 0 = .ok (.aload_n 0, 1) := by decide +kernel
theorem d_Mo_isCovered_1 : decode b_Mo_isCovered 1 = .ok (.iload_n 1, 1) := by decide +kernel
theorem d_Mo_isCovered_2 : decode b_Mo_isCovered 2 = .ok (.invokevirtual 146, 3) := by decide +kernel
theorem d_Mo_isCovered_5 : decode b_Mo_isCovered 5 = .ok (.iconst 0, 1) := by decide +kernel
theorem d_Mo_isCovered_6 : decode b_Mo_isCovered 6 = .ok (.istore_n 2, 1) := by decide +kernel
theorem d_Mo_isCovered_7 : decode b_Mo_isCovered 7 = .ok (.iload_n 2, 1) := by decide +kernel
theorem d_Mo_isCovered_8 : decode b_Mo_isCovered 8 = .ok (.aload_n 0, 1) := by decide +kernel
theorem d_Mo_isCovered_9 : decode b_Mo_isCovered 9 = .ok (.getfield 115, 3) := by decide +kernel
theorem d_Mo_isCovered_12 : decode b_Mo_isCovered 12 = .ok (.if_icmp .ge 22, 3) := by decide +kernel
theorem d_Mo_isCovered_15 : decode b_Mo_isCovered 15 = .ok (.aload_n 0, 1) := by decide +kernel
theorem d_Mo_isCovered_16 : decode b_Mo_isCovered 16 = .ok (.bipush 13, 2) := by decide +kernel
theorem d_Mo_isCovered_18 : decode b_Mo_isCovered 18 = .ok (.iload_n 2, 1) := by decide +kernel
theorem d_Mo_isCovered_19 : decode b_Mo_isCovered 19 = .ok (.iadd, 1) := by decide +kernel
theorem d_Mo_isCovered_20 : decode b_Mo_isCovered 20 = .ok (.invokevirtual 150, 3) := by decide +kernel
theorem d_Mo_isCovered_23 : decode b_Mo_isCovered 23 = .ok (.ifCond .eq 5, 3) := by decide +kernel
theorem d_Mo_isCovered_26 : decode b_Mo_isCovered 26 = .ok (.iconst 1, 1) := by decide +kernel
theorem d_Mo_isCovered_27 : decode b_Mo_isCovered 27 = .ok (.ireturn, 1) := by decide +kernel
theorem d_Mo_isCovered_28 : decode b_Mo_isCovered 28 = .ok (.iinc 2 1, 3) := by decide +kernel
theorem d_Mo_isCovered_31 : decode b_Mo_isCovered 31 = .ok (.goto (-24), 3) := by decide +kernel
theorem d_Mo_isCovered_34 : decode b_Mo_isCovered 34 = .ok (.iconst 0, 1) := by decide +kernel
theorem d_Mo_isCovered_35 : decode b_Mo_isCovered 35 = .ok (.ireturn, 1) := by decide +kernel
set_option maxRecDepth 100000 in
set_option maxHeartbeats 4000000 in
theorem S_Mo_isCovered_0 {G : Gc} {M : Mc} {Q : State → Prop} {K : Option Value → Hp → Prop} (hG : gok G) (hM : mok G M r_Mo_isCovered Q K) (v0 : Nat) (v1 : Int32) (h : Hp) (F : kT h v0 = 12 ∧ sem G r_Mo_open [.ref v0, .int v1] h (fun u2 h1 => u2 = none ∧ X G M Q 7 [(0, .ref v0), (2, .int 0)] [] h1)) : X G M Q 0 [(0, .ref v0), (1, .int v1)] [] h := by
  refine x_aload_n hM d_Mo_isCovered_0 rfl 0 rfl ?_
  refine x_iload_n hM d_Mo_isCovered_1 rfl 1 rfl ?_
  obtain ⟨c3, F⟩ := F
  refine x_callV hG hM (r' := r_Mo_open) (ci := 11) [.int v1] rfl rfl (Nat.le_of_ble_eq_true rfl) yk_Mo_open ⟨Nat.le_of_ble_eq_true rfl, Nat.le_of_ble_eq_true rfl⟩ w_1092 w_1094 ws_Mo_open rfl rfl (Nat.le_of_ble_eq_true rfl) d_Mo_isCovered_2 c3 (sem_mono F ?_)
  intro u2 h1 F
  obtain ⟨rfl, F⟩ := F
  refine x_iconst (v := 0) hM d_Mo_isCovered_5 (by decide) ?_
  refine x_istore_n (lv2 := [(2, .int 0), (0, .ref v0), (1, .int v1)]) hM d_Mo_isCovered_6 rfl (Nat.le_of_ble_eq_true rfl) rfl ?_
  refine x_sub [1, 0] rfl ?_
  exact F
set_option maxRecDepth 100000 in
set_option maxHeartbeats 4000000 in
theorem S_Mo_isCovered_7 {G : Gc} {M : Mc} {Q : State → Prop} {K : Option Value → Hp → Prop} (hG : gok G) (hM : mok G M r_Mo_isCovered Q K) (v0 : Nat) (v2 : Int32) (h : Hp) (F : kT h v0 = 12 ∧ (((kI h v0 9) ≤ v2 → K (some (.int 0)) h) ∧ (¬ (kI h v0 9) ≤ v2 → (kT h v0 = 12 ∧ sem G r_Mo_hold [.ref v0, .int (13 + v2)] h (fun u2 h1 => ∃ x3 : Int32, u2 = some (.int x3) ∧ ((x3 = 0 → X G M Q 7 [(0, .ref v0), (2, .int (v2 + 1))] [] h1) ∧ (¬ x3 = 0 → K (some (.int 1)) h1))))))) : X G M Q 7 [(0, .ref v0), (2, .int v2)] [] h := by
  refine x_iload_n hM d_Mo_isCovered_7 rfl 1 rfl ?_
  refine x_aload_n hM d_Mo_isCovered_8 rfl 0 rfl ?_
  obtain ⟨c7, F⟩ := F
  refine x_geti hG hM ck_Mo 9 (Nat.le_of_ble_eq_true rfl) rfl rfl w_906 rfl d_Mo_isCovered_9 c7 ?_
  refine x_icmp_ge (tgt := 34) hM d_Mo_isCovered_12 (by decide) (fun q6 => ?_) (fun q6 => ?_)
  · replace F := F.1 q6
    refine x_iconst (v := 0) hM d_Mo_isCovered_34 (by decide) ?_
    exact x_zreturn hM d_Mo_isCovered_35 rfl (Or.inl rfl) F
  · replace F := F.2 q6
    refine x_aload_n hM d_Mo_isCovered_15 rfl 0 rfl ?_
    refine x_bipush (v := 13) hM d_Mo_isCovered_16 (by decide) ?_
    refine x_iload_n hM d_Mo_isCovered_18 rfl 1 rfl ?_
    refine x_iadd hM d_Mo_isCovered_19 ?_
    obtain ⟨c5, F⟩ := F
    refine x_callV hG hM (r' := r_Mo_hold) (ci := 11) [.int (13 + v2)] rfl rfl (Nat.le_of_ble_eq_true rfl) yk_Mo_hold ⟨Nat.le_of_ble_eq_true rfl, Nat.le_of_ble_eq_true rfl⟩ w_1096 w_1098 ws_Mo_hold rfl rfl (Nat.le_of_ble_eq_true rfl) d_Mo_isCovered_20 c5 (sem_mono F ?_)
    intro u2 h1 F
    obtain ⟨x3, rfl, F⟩ := F
    refine x_if_eq (tgt := 28) hM d_Mo_isCovered_23 (by decide) (fun q4 => ?_) (fun q4 => ?_)
    · replace F := F.1 q4
      refine x_iinc (v := (v2 + 1)) (lv2 := [(2, .int (v2 + 1)), (0, .ref v0)]) hM d_Mo_isCovered_28 (j := 1) rfl rfl (Nat.le_of_ble_eq_true rfl) rfl ?_
      refine x_goto (tgt := 7) hM d_Mo_isCovered_31 (by decide) ?_
      refine x_sub [1, 0] rfl ?_
      exact F
    · replace F := F.2 q4
      refine x_iconst (v := 1) hM d_Mo_isCovered_26 (by decide) ?_
      exact x_zreturn hM d_Mo_isCovered_27 rfl (Or.inr rfl) F
