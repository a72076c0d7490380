theorem d_WP_flaw_0 : decode b_WP_flaw 0 = .ok (.iload_n 1, 1) := by decide +kernel
theorem d_WP_flaw_1 : decode b_WP_flaw 1 = .ok (.ifCond .lt 8, 3) := by decide +kernel
theorem d_WP_flaw_4 : decode b_WP_flaw 4 = .ok (.iload_n 1, 1) := by decide +kernel
theorem d_WP_flaw_5 : decode b_WP_flaw 5 = .ok (.iconst 3, 1) := by decide +kernel
theorem d_WP_flaw_6 : decode b_WP_flaw 6 = .ok (.if_icmp .le 6, 3) := by decide +kernel
theorem d_WP_flaw_9 : decode b_WP_flaw 9 = .ok (.bipush (-2), 2) := by decide +kernel
theorem d_WP_flaw_11 : decode b_WP_flaw 11 = .ok (.ireturn, 1) := by decide +kernel
theorem d_WP_flaw_12 : decode b_WP_flaw 12 = .ok (.aload_n 0, 1) := by decide +kernel
theorem d_WP_flaw_13 : decode b_WP_flaw 13 = .ok (.getfield 12, 3) := by decide +kernel
theorem d_WP_flaw_16 : decode b_WP_flaw 16 = .ok (.invokevirtual 166, 3) := by decide +kernel
theorem d_WP_flaw_19 : decode b_WP_flaw 19 = .ok (.aload_n 0, 1) := by decide +kernel
theorem d_WP_flaw_20 : decode b_WP_flaw 20 = .ok (.invokevirtual 178, 3) := by decide +kernel
theorem d_WP_flaw_23 : decode b_WP_flaw 23 = .ok (.aload_n 0, 1) := by decide +kernel
theorem d_WP_flaw_24 : decode b_WP_flaw 24 = .ok (.getfield 26, 3) := by decide +kernel
theorem d_WP_flaw_27 : decode b_WP_flaw 27 = .ok (.getfield 264, 3) := by decide +kernel
theorem d_WP_flaw_30 : decode b_WP_flaw 30 = .ok (.aload_n 0, 1) := by decide +kernel
theorem d_WP_flaw_31 : decode b_WP_flaw 31 = .ok (.getfield 33, 3) := by decide +kernel
theorem d_WP_flaw_34 : decode b_WP_flaw 34 = .ok (.getfield 235, 3) := by decide +kernel
theorem d_WP_flaw_37 : decode b_WP_flaw 37 = .ok (.lcmp, 1) := by decide +kernel
theorem d_WP_flaw_38 : decode b_WP_flaw 38 = .ok (.ifCond .ge 39, 3) := by decide +kernel
theorem d_WP_flaw_41 : decode b_WP_flaw 41 = .ok (.aload_n 0, 1) := by decide +kernel
theorem d_WP_flaw_42 : decode b_WP_flaw 42 = .ok (.getfield 26, 3) := by decide +kernel
theorem d_WP_flaw_45 : decode b_WP_flaw 45 = .ok (.aload_n 0, 1) := by decide +kernel
theorem d_WP_flaw_46 : decode b_WP_flaw 46 = .ok (.getfield 12, 3) := by decide +kernel
theorem d_WP_flaw_49 : decode b_WP_flaw 49 = .ok (.aload_n 0, 1) := by decide +kernel
theorem d_WP_flaw_50 : decode b_WP_flaw 50 = .ok (.getfield 47, 3) := by decide +kernel
theorem d_WP_flaw_53 : decode b_WP_flaw 53 = .ok (.getfield 228, 3) := by decide +kernel
theorem d_WP_flaw_56 : decode b_WP_flaw 56 = .ok (.aload_n 0, 1) := by decide +kernel
theorem d_WP_flaw_57 : decode b_WP_flaw 57 = .ok (.getfield 65, 3) := by decide +kernel
theorem d_WP_flaw_60 : decode b_WP_flaw 60 = .ok (.invokevirtual 267, 3) := by decide +kernel
theorem d_WP_flaw_63 : decode b_WP_flaw 63 = .ok (.aload_n 0, 1) := by decide +kernel
theorem d_WP_flaw_64 : decode b_WP_flaw 64 = .ok (.getfield 26, 3) := by decide +kernel
theorem d_WP_flaw_67 : decode b_WP_flaw 67 = .ok (.aload_n 0, 1) := by decide +kernel
theorem d_WP_flaw_68 : decode b_WP_flaw 68 = .ok (.getfield 33, 3) := by decide +kernel
theorem d_WP_flaw_71 : decode b_WP_flaw 71 = .ok (.getfield 235, 3) := by decide +kernel
theorem d_WP_flaw_74 : decode b_WP_flaw 74 = .ok (.putfield 264, 3) := by decide +kernel
theorem d_WP_flaw_77 : decode b_WP_flaw 77 = .ok (.iload_n 1, 1) := by decide +kernel
theorem d_WP_flaw_78 : decode b_WP_flaw 78 = .ok (.tableswitch 50 0 2 #[26, 34, 42], 26) := by decide +kernel
theorem d_WP_flaw_104 : decode b_WP_flaw 104 = .ok (.aload_n 0, 1) := by decide +kernel
theorem d_WP_flaw_105 : decode b_WP_flaw 105 = .ok (.getfield 26, 3) := by decide +kernel
theorem d_WP_flaw_108 : decode b_WP_flaw 108 = .ok (.getfield 271, 3) := by decide +kernel
theorem d_WP_flaw_111 : decode b_WP_flaw 111 = .ok (.ireturn, 1) := by decide +kernel
theorem d_WP_flaw_112 : decode b_WP_flaw 112 = .ok (.aload_n 0, 1) := by decide +kernel
theorem d_WP_flaw_113 : decode b_WP_flaw 113 = .ok (.getfield 26, 3) := by decide +kernel
theorem d_WP_flaw_116 : decode b_WP_flaw 116 = .ok (.getfield 274, 3) := by decide +kernel
theorem d_WP_flaw_119 : decode b_WP_flaw 119 = .ok (.ireturn, 1) := by decide +kernel
theorem d_WP_flaw_120 : decode b_WP_flaw 120 = .ok (.aload_n 0, 1) := by decide +kernel
theorem d_WP_flaw_121 : decode b_WP_flaw 121 = .ok (.getfield 26, 3) := by decide +kernel
theorem d_WP_flaw_124 : decode b_WP_flaw 124 = .ok (.getfield 277, 3) := by decide +kernel
theorem d_WP_flaw_127 : decode b_WP_flaw 127 = .ok (.ireturn, 1) := by decide +kernel
theorem d_WP_flaw_128 : decode b_WP_flaw 128 = .ok (.aload_n 0, 1) := by decide +kernel
theorem d_WP_flaw_129 : decode b_WP_flaw 129 = .ok (.getfield 26, 3) := by decide +kernel
theorem d_WP_flaw_132 : decode b_WP_flaw 132 = .ok (.getfield 280, 3) := by decide +kernel
theorem d_WP_flaw_135 : decode b_WP_flaw 135 = .ok (.ireturn, 1) := by decide +kernel
set_option maxRecDepth 100000 in
set_option maxHeartbeats 4000000 in
theorem S_WP_flaw_0 {G : Gc} {M : Mc} {Q : State → Prop} {K : Option Value → Hp → Prop} (hG : gok G) (hM : mok G M r_WP_flaw Q K) (v0 : Nat) (v1 : Int32) (h : Hp) (F : (v1 < 0 → K (some (.int (-2))) h) ∧ (¬ v1 < 0 → ((v1 ≤ 3 → (kT h v0 = 1 ∧ kR h v0 0 = some (rf h v0 0) ∧ (kT h (rf h v0 0) = 2 ∧ sem G r_Wo_prepare [.ref (rf h v0 0)] h (fun u2 h1 => u2 = none ∧ (kT h1 v0 = 1 ∧ sem G r_WP_findAim [.ref v0] h1 (fun u4 h3 => u4 = none ∧ (kT h3 v0 = 1 ∧ kR h3 v0 2 = some (rf h3 v0 2) ∧ (kT h3 (rf h3 v0 2) = 6 ∧ (kT h3 v0 = 1 ∧ kR h3 v0 3 = some (rf h3 v0 3) ∧ (kT h3 (rf h3 v0 3) = 7 ∧ ((0 ≤ (lg_cmp (kL h3 (rf h3 v0 2) 6) (kL h3 (rf h3 v0 3) 0)) → X G M Q 77 [(0, .ref v0), (1, .int v1)] [] h3) ∧ (¬ 0 ≤ (lg_cmp (kL h3 (rf h3 v0 2) 6) (kL h3 (rf h3 v0 3) 0)) → (kT h3 v0 = 1 ∧ kR h3 v0 2 = some (rf h3 v0 2) ∧ (kT h3 v0 = 1 ∧ kR h3 v0 0 = some (rf h3 v0 0) ∧ (kT h3 v0 = 1 ∧ kR h3 v0 5 = some (rf h3 v0 5) ∧ (kT h3 (rf h3 v0 5) = 9 ∧ kR h3 (rf h3 v0 5) 0 = some (rf h3 (rf h3 v0 5) 0) ∧ (kT h3 v0 = 1 ∧ (kT h3 (rf h3 v0 2) = 6 ∧ sem G r_Co_judge [.ref (rf h3 v0 2), .ref (rf h3 v0 0), .ref (rf h3 (rf h3 v0 5) 0), .int (kI h3 v0 8)] h3 (fun u6 h5 => u6 = none ∧ (kT h5 v0 = 1 ∧ kR h5 v0 2 = some (rf h5 v0 2) ∧ (kT h5 v0 = 1 ∧ kR h5 v0 3 = some (rf h5 v0 3) ∧ (kT h5 (rf h5 v0 3) = 7 ∧ (kT h5 (rf h5 v0 2) = 6 ∧ (∀ h7 : Hp, h7 = wL h5 (rf h5 v0 2) 6 (kL h5 (rf h5 v0 3) 0) → X G M Q 77 [(0, .ref v0), (1, .int v1)] [] h7)))))))))))))))))))))))) ∧ (¬ v1 ≤ 3 → K (some (.int (-2))) h)))) : X G M Q 0 [(0, .ref v0), (1, .int v1)] [] h := by
  refine x_iload_n hM d_WP_flaw_0 rfl 1 rfl ?_
  refine x_if_lt (tgt := 9) hM d_WP_flaw_1 (by decide) (fun q36 => ?_) (fun q36 => ?_)
  · replace F := F.1 q36
    refine x_bipush (v := (-2)) hM d_WP_flaw_9 (by decide) ?_
    exact x_ireturn hM d_WP_flaw_11 rfl F
  · replace F := F.2 q36
    refine x_iload_n hM d_WP_flaw_4 rfl 1 rfl ?_
    refine x_iconst (v := 3) hM d_WP_flaw_5 (by decide) ?_
    refine x_icmp_le (tgt := 12) hM d_WP_flaw_6 (by decide) (fun q35 => ?_) (fun q35 => ?_)
    · replace F := F.1 q35
      refine x_aload_n hM d_WP_flaw_12 rfl 0 rfl ?_
      obtain ⟨c33, F⟩ := F
      obtain ⟨c34, F⟩ := F
      refine x_getr hG hM ck_WP 0 (Nat.le_of_ble_eq_true rfl) rfl rfl w_402 rfl d_WP_flaw_13 c33 c34 ?_
      obtain ⟨c32, F⟩ := F
      refine x_callV hG hM (r' := r_Wo_prepare) (ci := 1) [] rfl rfl (Nat.le_of_ble_eq_true rfl) yk_Wo_prepare ⟨Nat.le_of_ble_eq_true rfl, Nat.le_of_ble_eq_true rfl⟩ w_577 w_578 w_579 rfl rfl (Nat.le_of_ble_eq_true rfl) d_WP_flaw_16 c32 (sem_mono F ?_)
      intro u2 h1 F
      obtain ⟨rfl, F⟩ := F
      refine x_aload_n hM d_WP_flaw_19 rfl 0 rfl ?_
      obtain ⟨c31, F⟩ := F
      refine x_callV hG hM (r' := r_WP_findAim) (ci := 0) [] rfl rfl (Nat.le_of_ble_eq_true rfl) yk_WP_findAim ⟨Nat.le_of_ble_eq_true rfl, Nat.le_of_ble_eq_true rfl⟩ w_638 w_640 ws_WP_findAim rfl rfl (Nat.le_of_ble_eq_true rfl) d_WP_flaw_20 c31 (sem_mono F ?_)
      intro u4 h3 F
      obtain ⟨rfl, F⟩ := F
      refine x_aload_n hM d_WP_flaw_23 rfl 0 rfl ?_
      obtain ⟨c29, F⟩ := F
      obtain ⟨c30, F⟩ := F
      refine x_getr hG hM ck_WP 2 (Nat.le_of_ble_eq_true rfl) rfl rfl w_404 rfl d_WP_flaw_24 c29 c30 ?_
      obtain ⟨c28, F⟩ := F
      refine x_getl hG hM ck_Co 6 (Nat.le_of_ble_eq_true rfl) rfl rfl w_207 rfl d_WP_flaw_27 c28 ?_
      refine x_aload_n hM d_WP_flaw_30 rfl 0 rfl ?_
      obtain ⟨c26, F⟩ := F
      obtain ⟨c27, F⟩ := F
      refine x_getr hG hM ck_WP 3 (Nat.le_of_ble_eq_true rfl) rfl rfl w_405 rfl d_WP_flaw_31 c26 c27 ?_
      obtain ⟨c25, F⟩ := F
      refine x_getl hG hM ck_Ch 0 (Nat.le_of_ble_eq_true rfl) rfl rfl w_234 rfl d_WP_flaw_34 c25 ?_
      refine x_lcmp hM d_WP_flaw_37 ?_
      refine x_if_ge (tgt := 77) hM d_WP_flaw_38 (by decide) (fun q24 => ?_) (fun q24 => ?_)
      · replace F := F.1 q24
        exact F
      · replace F := F.2 q24
        refine x_aload_n hM d_WP_flaw_41 rfl 0 rfl ?_
        obtain ⟨c22, F⟩ := F
        obtain ⟨c23, F⟩ := F
        refine x_getr hG hM ck_WP 2 (Nat.le_of_ble_eq_true rfl) rfl rfl w_404 rfl d_WP_flaw_42 c22 c23 ?_
        refine x_aload_n hM d_WP_flaw_45 rfl 0 rfl ?_
        obtain ⟨c20, F⟩ := F
        obtain ⟨c21, F⟩ := F
        refine x_getr hG hM ck_WP 0 (Nat.le_of_ble_eq_true rfl) rfl rfl w_402 rfl d_WP_flaw_46 c20 c21 ?_
        refine x_aload_n hM d_WP_flaw_49 rfl 0 rfl ?_
        obtain ⟨c18, F⟩ := F
        obtain ⟨c19, F⟩ := F
        refine x_getr hG hM ck_WP 5 (Nat.le_of_ble_eq_true rfl) rfl rfl w_407 rfl d_WP_flaw_50 c18 c19 ?_
        obtain ⟨c16, F⟩ := F
        obtain ⟨c17, F⟩ := F
        refine x_getr hG hM ck_Wi 0 (Nat.le_of_ble_eq_true rfl) rfl rfl w_284 rfl d_WP_flaw_53 c16 c17 ?_
        refine x_aload_n hM d_WP_flaw_56 rfl 0 rfl ?_
        obtain ⟨c15, F⟩ := F
        refine x_geti hG hM ck_WP 8 (Nat.le_of_ble_eq_true rfl) rfl rfl w_410 rfl d_WP_flaw_57 c15 ?_
        obtain ⟨c14, F⟩ := F
        refine x_callV hG hM (r' := r_Co_judge) (ci := 5) [.ref (rf h3 v0 0), .ref (rf h3 (rf h3 v0 5) 0), .int (kI h3 v0 8)] rfl rfl (Nat.le_of_ble_eq_true rfl) yk_Co_judge ⟨Nat.le_of_ble_eq_true rfl, Nat.le_of_ble_eq_true rfl⟩ w_863 w_864 w_865 rfl rfl (Nat.le_of_ble_eq_true rfl) d_WP_flaw_60 c14 (sem_mono F ?_)
        intro u6 h5 F
        obtain ⟨rfl, F⟩ := F
        refine x_aload_n hM d_WP_flaw_63 rfl 0 rfl ?_
        obtain ⟨c12, F⟩ := F
        obtain ⟨c13, F⟩ := F
        refine x_getr hG hM ck_WP 2 (Nat.le_of_ble_eq_true rfl) rfl rfl w_404 rfl d_WP_flaw_64 c12 c13 ?_
        refine x_aload_n hM d_WP_flaw_67 rfl 0 rfl ?_
        obtain ⟨c10, F⟩ := F
        obtain ⟨c11, F⟩ := F
        refine x_getr hG hM ck_WP 3 (Nat.le_of_ble_eq_true rfl) rfl rfl w_405 rfl d_WP_flaw_68 c10 c11 ?_
        obtain ⟨c9, F⟩ := F
        refine x_getl hG hM ck_Ch 0 (Nat.le_of_ble_eq_true rfl) rfl rfl w_234 rfl d_WP_flaw_71 c9 ?_
        obtain ⟨c8, F⟩ := F
        obtain ⟨h7, eh7⟩ : ∃ z : Hp, z = wL h5 (rf h5 v0 2) 6 (kL h5 (rf h5 v0 3) 0) := ⟨_, rfl⟩
        replace F := F h7 eh7
        refine x_putl hG hM ck_Co 6 (Nat.le_of_ble_eq_true rfl) rfl rfl w_207 rfl d_WP_flaw_74 (Or.inl rfl) c8 ?_
        rw [← eh7]
        clear eh7
        exact F
    · replace F := F.2 q35
      refine x_bipush (v := (-2)) hM d_WP_flaw_9 (by decide) ?_
      exact x_ireturn hM d_WP_flaw_11 rfl F
set_option maxRecDepth 100000 in
set_option maxHeartbeats 4000000 in
theorem S_WP_flaw_77 {G : Gc} {M : Mc} {Q : State → Prop} {K : Option Value → Hp → Prop} (hG : gok G) (hM : mok G M r_WP_flaw Q K) (v0 : Nat) (v1 : Int32) (h : Hp) (F : (v1 = 0 → (kT h v0 = 1 ∧ kR h v0 2 = some (rf h v0 2) ∧ (kT h (rf h v0 2) = 6 ∧ K (some (.int (kI h (rf h v0 2) 2))) h))) ∧ (v1 = 1 → (kT h v0 = 1 ∧ kR h v0 2 = some (rf h v0 2) ∧ (kT h (rf h v0 2) = 6 ∧ K (some (.int (kI h (rf h v0 2) 3))) h))) ∧ (v1 = 2 → (kT h v0 = 1 ∧ kR h v0 2 = some (rf h v0 2) ∧ (kT h (rf h v0 2) = 6 ∧ K (some (.int (kI h (rf h v0 2) 4))) h))) ∧ (¬ v1 = 0 → ¬ v1 = 1 → ¬ v1 = 2 → (kT h v0 = 1 ∧ kR h v0 2 = some (rf h v0 2) ∧ (kT h (rf h v0 2) = 6 ∧ K (some (.int (kI h (rf h v0 2) 5))) h)))) : X G M Q 77 [(0, .ref v0), (1, .int v1)] [] h := by
  refine x_iload_n hM d_WP_flaw_77 rfl 1 rfl ?_
  by_cases q78_0 : v1 = 0
  · replace F := F.1 q78_0
    refine x_tblIn (tgt := 104) hM d_WP_flaw_78 (by rw [q78_0]; decide) (by rw [q78_0]; decide) (by rw [q78_0]; rfl) (by decide) ?_
    refine x_aload_n hM d_WP_flaw_104 rfl 0 rfl ?_
    obtain ⟨c2, F⟩ := F
    obtain ⟨c3, F⟩ := F
    refine x_getr hG hM ck_WP 2 (Nat.le_of_ble_eq_true rfl) rfl rfl w_404 rfl d_WP_flaw_105 c2 c3 ?_
    obtain ⟨c1, F⟩ := F
    refine x_geti hG hM ck_Co 2 (Nat.le_of_ble_eq_true rfl) rfl rfl w_199 rfl d_WP_flaw_108 c1 ?_
    exact x_ireturn hM d_WP_flaw_111 rfl F
  by_cases q78_1 : v1 = 1
  · replace F := F.2.1 q78_1
    refine x_tblIn (tgt := 112) hM d_WP_flaw_78 (by rw [q78_1]; decide) (by rw [q78_1]; decide) (by rw [q78_1]; rfl) (by decide) ?_
    refine x_aload_n hM d_WP_flaw_112 rfl 0 rfl ?_
    obtain ⟨c5, F⟩ := F
    obtain ⟨c6, F⟩ := F
    refine x_getr hG hM ck_WP 2 (Nat.le_of_ble_eq_true rfl) rfl rfl w_404 rfl d_WP_flaw_113 c5 c6 ?_
    obtain ⟨c4, F⟩ := F
    refine x_geti hG hM ck_Co 3 (Nat.le_of_ble_eq_true rfl) rfl rfl w_201 rfl d_WP_flaw_116 c4 ?_
    exact x_ireturn hM d_WP_flaw_119 rfl F
  by_cases q78_2 : v1 = 2
  · replace F := F.2.2.1 q78_2
    refine x_tblIn (tgt := 120) hM d_WP_flaw_78 (by rw [q78_2]; decide) (by rw [q78_2]; decide) (by rw [q78_2]; rfl) (by decide) ?_
    refine x_aload_n hM d_WP_flaw_120 rfl 0 rfl ?_
    obtain ⟨c8, F⟩ := F
    obtain ⟨c9, F⟩ := F
    refine x_getr hG hM ck_WP 2 (Nat.le_of_ble_eq_true rfl) rfl rfl w_404 rfl d_WP_flaw_121 c8 c9 ?_
    obtain ⟨c7, F⟩ := F
    refine x_geti hG hM ck_Co 4 (Nat.le_of_ble_eq_true rfl) rfl rfl w_203 rfl d_WP_flaw_124 c7 ?_
    exact x_ireturn hM d_WP_flaw_127 rfl F
  replace F := F.2.2.2 q78_0 q78_1 q78_2
  refine x_tblOut (tgt := 128) hM d_WP_flaw_78 (sw_out2 q78_0 q78_1 q78_2) (by decide) ?_
  refine x_aload_n hM d_WP_flaw_128 rfl 0 rfl ?_
  obtain ⟨c11, F⟩ := F
  obtain ⟨c12, F⟩ := F
  refine x_getr hG hM ck_WP 2 (Nat.le_of_ble_eq_true rfl) rfl rfl w_404 rfl d_WP_flaw_129 c11 c12 ?_
  obtain ⟨c10, F⟩ := F
  refine x_geti hG hM ck_Co 5 (Nat.le_of_ble_eq_true rfl) rfl rfl w_205 rfl d_WP_flaw_132 c10 ?_
  exact x_ireturn hM d_WP_flaw_135 rfl F
