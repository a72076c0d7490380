theorem d_Mo_of_0 : decode b_Mo_of 0 = .ok (.aload_n 0, 1) := by decide +kernel
theorem d_Mo_of_1 : decode b_Mo_of 1 = .ok (.iload_n 1, 1) := by decide +kernel
theorem d_Mo_of_2 : decode b_Mo_of 2 = .ok (.invokevirtual 126, 3) := by decide +kernel
theorem d_Mo_of_5 : decode b_Mo_of 5 = .ok (.ifCond .eq 12, 3) := by decide +kernel
theorem d_Mo_of_8 : decode b_Mo_of 8 = .ok (.iload_n 2, 1) := by decide +kernel
theorem d_Mo_of_9 : decode b_Mo_of 9 = .ok (.iconst 0, 1) := by decide +kernel
theorem d_Mo_of_10 : decode b_Mo_of 10 = .ok (.iconst 4, 1) := by decide +kernel
theorem d_Mo_of_11 : decode b_Mo_of 11 = .ok (.invokestatic 118, 3) := by decide +kernel
theorem d_Mo_of_14 : decode b_Mo_of 14 = .ok (.ifCond .ne 6, 3) := by decide +kernel
theorem d_Mo_of_17 : decode b_Mo_of 17 = .ok (.bipush (-2), 2) := by decide +kernel
theorem d_Mo_of_19 : decode b_Mo_of 19 = .ok (.ireturn, 1) := by decide +kernel
theorem d_Mo_of_20 : decode b_Mo_of 20 = .ok (.aload_n 0, 1) := by decide +kernel
theorem d_Mo_of_21 : decode b_Mo_of 21 = .ok (.invokevirtual 191, 3) := by decide +kernel
theorem d_Mo_of_24 : decode b_Mo_of 24 = .ok (.iload_n 2, 1) := by decide +kernel
theorem d_Mo_of_25 : decode b_Mo_of 25 = .ok (.tableswitch 59 0 3 #[31, 38, 45, 52], 31) := by decide +kernel
theorem d_Mo_of_56 : decode b_Mo_of 56 = .ok (.aload_n 0, 1) := by decide +kernel
theorem d_Mo_of_57 : decode b_Mo_of 57 = .ok (.getfield 51, 3) := by decide +kernel
theorem d_Mo_of_60 : decode b_Mo_of 60 = .ok (.iload_n 1, 1) := by decide +kernel
theorem d_Mo_of_61 : decode b_Mo_of 61 = .ok (.iaload, 1) := by decide +kernel
theorem d_Mo_of_62 : decode b_Mo_of 62 = .ok (.ireturn, 1) := by decide +kernel
theorem d_Mo_of_63 : decode b_Mo_of 63 = .ok (.aload_n 0, 1) := by decide +kernel
theorem d_Mo_of_64 : decode b_Mo_of 64 = .ok (.getfield 54, 3) := by decide +kernel
theorem d_Mo_of_67 : decode b_Mo_of 67 = .ok (.iload_n 1, 1) := by decide +kernel
theorem d_Mo_of_68 : decode b_Mo_of 68 = .ok (.iaload, 1) := by decide +kernel
theorem d_Mo_of_69 : decode b_Mo_of 69 = .ok (.ireturn, 1) := by decide +kernel
theorem d_Mo_of_70 : decode b_Mo_of 70 = .ok (.aload_n 0, 1) := by decide +kernel
theorem d_Mo_of_71 : decode b_Mo_of 71 = .ok (.getfield 57, 3) := by decide +kernel
theorem d_Mo_of_74 : decode b_Mo_of 74 = .ok (.iload_n 1, 1) := by decide +kernel
theorem d_Mo_of_75 : decode b_Mo_of 75 = .ok (.iaload, 1) := by decide +kernel
theorem d_Mo_of_76 : decode b_Mo_of 76 = .ok (.ireturn, 1) := by decide +kernel
theorem d_Mo_of_77 : decode b_Mo_of 77 = .ok (.aload_n 0, 1) := by decide +kernel
theorem d_Mo_of_78 : decode b_Mo_of 78 = .ok (.getfield 60, 3) := by decide +kernel
theorem d_Mo_of_81 : decode b_Mo_of 81 = .ok (.iload_n 1, 1) := by decide +kernel
theorem d_Mo_of_82 : decode b_Mo_of 82 = .ok (.iaload, 1) := by decide +kernel
theorem d_Mo_of_83 : decode b_Mo_of 83 = .ok (.ireturn, 1) := by decide +kernel
theorem d_Mo_of_84 : decode b_Mo_of 84 = .ok (.aload_n 0, 1) := by decide +kernel
theorem d_Mo_of_85 : decode b_Mo_of 85 = .ok (.invokevirtual 206, 3) := by decide +kernel
theorem d_Mo_of_88 : decode b_Mo_of 88 = .ok (.iconst 0, 1) := by decide +kernel
theorem d_Mo_of_89 : decode b_Mo_of 89 = .ok (.istore_n 3, 1) := by decide +kernel
theorem d_Mo_of_90 : decode b_Mo_of 90 = .ok (.aload_n 0, 1) := by decide +kernel
theorem d_Mo_of_91 : decode b_Mo_of 91 = .ok (.getfield 73, 3) := by decide +kernel
theorem d_Mo_of_94 : decode b_Mo_of 94 = .ok (.iload_n 3, 1) := by decide +kernel
theorem d_Mo_of_95 : decode b_Mo_of 95 = .ok (.iaload, 1) := by decide +kernel
theorem d_Mo_of_96 : decode b_Mo_of 96 = .ok (.aload_n 0, 1) := by decide +kernel
theorem d_Mo_of_97 : decode b_Mo_of 97 = .ok (.getfield 73, 3) := by decide +kernel
theorem d_Mo_of_100 : decode b_Mo_of 100 = .ok (.iload_n 1, 1) := by decide +kernel
theorem d_Mo_of_101 : decode b_Mo_of 101 = .ok (.iaload, 1) := by decide +kernel
theorem d_Mo_of_102 : decode b_Mo_of 102 = .ok (.if_icmp .eq 9, 3) := by decide +kernel
theorem d_Mo_of_105 : decode b_Mo_of 105 = .ok (.iinc 3 1, 3) := by decide +kernel
theorem d_Mo_of_108 : decode b_Mo_of 108 = .ok (.goto (-18), 3) := by decide +kernel
theorem d_Mo_of_111 : decode b_Mo_of 111 = .ok (.iload_n 3, 1) := by decide +kernel
theorem d_Mo_of_112 : decode b_Mo_of 112 = .ok (.ireturn, 1) := by decide +kernel
set_option maxRecDepth 100000 in
set_option maxHeartbeats 4000000 in
theorem S_Mo_of_0 {G : Gc} {M : Mc} {Q : State → Prop} {K : Option Value → Hp → Prop} (hG : gok G) (hM : mok G M r_Mo_of Q K) (v0 : Nat) (v1 : Int32) (v2 : Int32) (h : Hp) (F : kT h v0 = 12 ∧ sem G r_Mo_isState [.ref v0, .int v1] h (fun u2 h1 => ∃ x3 : Int32, u2 = some (.int x3) ∧ ((x3 = 0 → K (some (.int (-2))) h1) ∧ (¬ x3 = 0 → (sem G r_Mo_isIn [.int v2, .int 0, .int 4] h1 (fun u5 h4 => ∃ x6 : Int32, u5 = some (.int x6) ∧ ((x6 = 0 → K (some (.int (-2))) h4) ∧ (¬ x6 = 0 → (kT h4 v0 = 12 ∧ sem G r_Mo_lay [.ref v0] h4 (fun u8 h7 => u8 = none ∧ ((v2 = 0 → (kT h7 v0 = 12 ∧ kR h7 v0 19 = some (rf h7 v0 19) ∧ (kT h7 (rf h7 v0 19) = 50 ∧ vp_in v1 (kN h7 (rf h7 v0 19)) ∧ K (some (.int (kI h7 (rf h7 v0 19) (Int32.toNatClampNeg v1)))) h7))) ∧ (v2 = 1 → (kT h7 v0 = 12 ∧ kR h7 v0 20 = some (rf h7 v0 20) ∧ (kT h7 (rf h7 v0 20) = 50 ∧ vp_in v1 (kN h7 (rf h7 v0 20)) ∧ K (some (.int (kI h7 (rf h7 v0 20) (Int32.toNatClampNeg v1)))) h7))) ∧ (v2 = 2 → (kT h7 v0 = 12 ∧ kR h7 v0 21 = some (rf h7 v0 21) ∧ (kT h7 (rf h7 v0 21) = 50 ∧ vp_in v1 (kN h7 (rf h7 v0 21)) ∧ K (some (.int (kI h7 (rf h7 v0 21) (Int32.toNatClampNeg v1)))) h7))) ∧ (v2 = 3 → (kT h7 v0 = 12 ∧ kR h7 v0 22 = some (rf h7 v0 22) ∧ (kT h7 (rf h7 v0 22) = 50 ∧ vp_in v1 (kN h7 (rf h7 v0 22)) ∧ K (some (.int (kI h7 (rf h7 v0 22) (Int32.toNatClampNeg v1)))) h7))) ∧ (¬ v2 = 0 → ¬ v2 = 1 → ¬ v2 = 2 → ¬ v2 = 3 → (kT h7 v0 = 12 ∧ sem G r_Mo_partAll [.ref v0] h7 (fun u26 h25 => u26 = none ∧ X G M Q 90 [(0, .ref v0), (1, .int v1), (3, .int 0)] [] h25)))))))))))))) : X G M Q 0 [(0, .ref v0), (1, .int v1), (2, .int v2)] [] h := by
  refine x_aload_n hM d_Mo_of_0 rfl 0 rfl ?_
  refine x_iload_n hM d_Mo_of_1 rfl 1 rfl ?_
  obtain ⟨c31, F⟩ := F
  refine x_callV hG hM (r' := r_Mo_isState) (ci := 11) [.int v1] rfl rfl (Nat.le_of_ble_eq_true rfl) yk_Mo_isState ⟨Nat.le_of_ble_eq_true rfl, Nat.le_of_ble_eq_true rfl⟩ w_1028 w_1030 ws_Mo_isState rfl rfl (Nat.le_of_ble_eq_true rfl) d_Mo_of_2 c31 (sem_mono F ?_)
  intro u2 h1 F
  obtain ⟨x3, rfl, F⟩ := F
  refine x_if_eq (tgt := 17) hM d_Mo_of_5 (by decide) (fun q30 => ?_) (fun q30 => ?_)
  · replace F := F.1 q30
    refine x_bipush (v := (-2)) hM d_Mo_of_17 (by decide) ?_
    exact x_ireturn hM d_Mo_of_19 rfl F
  · replace F := F.2 q30
    refine x_iload_n hM d_Mo_of_8 rfl 2 rfl ?_
    refine x_iconst (v := 0) hM d_Mo_of_9 (by decide) ?_
    refine x_iconst (v := 4) hM d_Mo_of_10 (by decide) ?_
    refine x_callS hG hM (r' := r_Mo_isIn) [.int v2, .int 0, .int 4] rfl yk_Mo_isIn ⟨Nat.le_of_ble_eq_true rfl, Nat.le_of_ble_eq_true rfl⟩ w_1017 w_1018 rfl rfl (Nat.le_of_ble_eq_true rfl) d_Mo_of_11 (sem_mono F ?_)
    intro u5 h4 F
    obtain ⟨x6, rfl, F⟩ := F
    refine x_if_ne (tgt := 20) hM d_Mo_of_14 (by decide) (fun q29 => ?_) (fun q29 => ?_)
    · replace F := F.2 q29
      refine x_aload_n hM d_Mo_of_20 rfl 0 rfl ?_
      obtain ⟨c28, F⟩ := F
      refine x_callV hG hM (r' := r_Mo_lay) (ci := 11) [] rfl rfl (Nat.le_of_ble_eq_true rfl) yk_Mo_lay ⟨Nat.le_of_ble_eq_true rfl, Nat.le_of_ble_eq_true rfl⟩ w_1112 w_1114 ws_Mo_lay rfl rfl (Nat.le_of_ble_eq_true rfl) d_Mo_of_21 c28 (sem_mono F ?_)
      intro u8 h7 F
      obtain ⟨rfl, F⟩ := F
      refine x_iload_n hM d_Mo_of_24 rfl 2 rfl ?_
      by_cases q25_0 : v2 = 0
      · replace F := F.1 q25_0
        refine x_tblIn (tgt := 56) hM d_Mo_of_25 (by rw [q25_0]; decide) (by rw [q25_0]; decide) (by rw [q25_0]; rfl) (by decide) ?_
        refine x_aload_n hM d_Mo_of_56 rfl 0 rfl ?_
        obtain ⟨c11, F⟩ := F
        obtain ⟨c12, F⟩ := F
        refine x_getr hG hM ck_Mo 19 (Nat.le_of_ble_eq_true rfl) rfl rfl w_916 rfl d_Mo_of_57 c11 c12 ?_
        refine x_iload_n hM d_Mo_of_60 rfl 1 rfl ?_
        obtain ⟨c9, F⟩ := F
        obtain ⟨c10, F⟩ := F
        refine x_iaload hG hM d_Mo_of_61 c9 c10 ?_
        exact x_ireturn hM d_Mo_of_62 rfl F
      by_cases q25_1 : v2 = 1
      · replace F := F.2.1 q25_1
        refine x_tblIn (tgt := 63) hM d_Mo_of_25 (by rw [q25_1]; decide) (by rw [q25_1]; decide) (by rw [q25_1]; rfl) (by decide) ?_
        refine x_aload_n hM d_Mo_of_63 rfl 0 rfl ?_
        obtain ⟨c15, F⟩ := F
        obtain ⟨c16, F⟩ := F
        refine x_getr hG hM ck_Mo 20 (Nat.le_of_ble_eq_true rfl) rfl rfl w_917 rfl d_Mo_of_64 c15 c16 ?_
        refine x_iload_n hM d_Mo_of_67 rfl 1 rfl ?_
        obtain ⟨c13, F⟩ := F
        obtain ⟨c14, F⟩ := F
        refine x_iaload hG hM d_Mo_of_68 c13 c14 ?_
        exact x_ireturn hM d_Mo_of_69 rfl F
      by_cases q25_2 : v2 = 2
      · replace F := F.2.2.1 q25_2
        refine x_tblIn (tgt := 70) hM d_Mo_of_25 (by rw [q25_2]; decide) (by rw [q25_2]; decide) (by rw [q25_2]; rfl) (by decide) ?_
        refine x_aload_n hM d_Mo_of_70 rfl 0 rfl ?_
        obtain ⟨c19, F⟩ := F
        obtain ⟨c20, F⟩ := F
        refine x_getr hG hM ck_Mo 21 (Nat.le_of_ble_eq_true rfl) rfl rfl w_918 rfl d_Mo_of_71 c19 c20 ?_
        refine x_iload_n hM d_Mo_of_74 rfl 1 rfl ?_
        obtain ⟨c17, F⟩ := F
        obtain ⟨c18, F⟩ := F
        refine x_iaload hG hM d_Mo_of_75 c17 c18 ?_
        exact x_ireturn hM d_Mo_of_76 rfl F
      by_cases q25_3 : v2 = 3
      · replace F := F.2.2.2.1 q25_3
        refine x_tblIn (tgt := 77) hM d_Mo_of_25 (by rw [q25_3]; decide) (by rw [q25_3]; decide) (by rw [q25_3]; rfl) (by decide) ?_
        refine x_aload_n hM d_Mo_of_77 rfl 0 rfl ?_
        obtain ⟨c23, F⟩ := F
        obtain ⟨c24, F⟩ := F
        refine x_getr hG hM ck_Mo 22 (Nat.le_of_ble_eq_true rfl) rfl rfl w_919 rfl d_Mo_of_78 c23 c24 ?_
        refine x_iload_n hM d_Mo_of_81 rfl 1 rfl ?_
        obtain ⟨c21, F⟩ := F
        obtain ⟨c22, F⟩ := F
        refine x_iaload hG hM d_Mo_of_82 c21 c22 ?_
        exact x_ireturn hM d_Mo_of_83 rfl F
      replace F := F.2.2.2.2 q25_0 q25_1 q25_2 q25_3
      refine x_tblOut (tgt := 84) hM d_Mo_of_25 (sw_out3 q25_0 q25_1 q25_2 q25_3) (by decide) ?_
      refine x_aload_n hM d_Mo_of_84 rfl 0 rfl ?_
      obtain ⟨c27, F⟩ := F
      refine x_callV hG hM (r' := r_Mo_partAll) (ci := 11) [] rfl rfl (Nat.le_of_ble_eq_true rfl) yk_Mo_partAll ⟨Nat.le_of_ble_eq_true rfl, Nat.le_of_ble_eq_true rfl⟩ w_1140 w_1142 ws_Mo_partAll rfl rfl (Nat.le_of_ble_eq_true rfl) d_Mo_of_85 c27 (sem_mono F ?_)
      intro u26 h25 F
      obtain ⟨rfl, F⟩ := F
      refine x_iconst (v := 0) hM d_Mo_of_88 (by decide) ?_
      refine x_istore_n (lv2 := [(3, .int 0), (0, .ref v0), (1, .int v1), (2, .int v2)]) hM d_Mo_of_89 rfl (Nat.le_of_ble_eq_true rfl) rfl ?_
      refine x_sub [1, 2, 0] rfl ?_
      exact F
    · replace F := F.1 q29
      refine x_bipush (v := (-2)) hM d_Mo_of_17 (by decide) ?_
      exact x_ireturn hM d_Mo_of_19 rfl F
set_option maxRecDepth 100000 in
set_option maxHeartbeats 4000000 in
theorem S_Mo_of_90 {G : Gc} {M : Mc} {Q : State → Prop} {K : Option Value → Hp → Prop} (hG : gok G) (hM : mok G M r_Mo_of Q K) (v0 : Nat) (v1 : Int32) (v3 : Int32) (h : Hp) (F : kT h v0 = 12 ∧ kR h v0 27 = some (rf h v0 27) ∧ (kT h (rf h v0 27) = 50 ∧ vp_in v3 (kN h (rf h v0 27)) ∧ (kT h v0 = 12 ∧ kR h v0 27 = some (rf h v0 27) ∧ (kT h (rf h v0 27) = 50 ∧ vp_in v1 (kN h (rf h v0 27)) ∧ (((kI h (rf h v0 27) (Int32.toNatClampNeg v3)) = (kI h (rf h v0 27) (Int32.toNatClampNeg v1)) → K (some (.int v3)) h) ∧ (¬ (kI h (rf h v0 27) (Int32.toNatClampNeg v3)) = (kI h (rf h v0 27) (Int32.toNatClampNeg v1)) → X G M Q 90 [(0, .ref v0), (1, .int v1), (3, .int (v3 + 1))] [] h)))))) : X G M Q 90 [(0, .ref v0), (1, .int v1), (3, .int v3)] [] h := by
  refine x_aload_n hM d_Mo_of_90 rfl 0 rfl ?_
  obtain ⟨c8, F⟩ := F
  obtain ⟨c9, F⟩ := F
  refine x_getr hG hM ck_Mo 27 (Nat.le_of_ble_eq_true rfl) rfl rfl w_924 rfl d_Mo_of_91 c8 c9 ?_
  refine x_iload_n hM d_Mo_of_94 rfl 2 rfl ?_
  obtain ⟨c6, F⟩ := F
  obtain ⟨c7, F⟩ := F
  refine x_iaload hG hM d_Mo_of_95 c6 c7 ?_
  refine x_aload_n hM d_Mo_of_96 rfl 0 rfl ?_
  obtain ⟨c4, F⟩ := F
  obtain ⟨c5, F⟩ := F
  refine x_getr hG hM ck_Mo 27 (Nat.le_of_ble_eq_true rfl) rfl rfl w_924 rfl d_Mo_of_97 c4 c5 ?_
  refine x_iload_n hM d_Mo_of_100 rfl 1 rfl ?_
  obtain ⟨c2, F⟩ := F
  obtain ⟨c3, F⟩ := F
  refine x_iaload hG hM d_Mo_of_101 c2 c3 ?_
  refine x_icmp_eq (tgt := 111) hM d_Mo_of_102 (by decide) (fun q1 => ?_) (fun q1 => ?_)
  · replace F := F.1 q1
    refine x_iload_n hM d_Mo_of_111 rfl 2 rfl ?_
    exact x_ireturn hM d_Mo_of_112 rfl F
  · replace F := F.2 q1
    refine x_iinc (v := (v3 + 1)) (lv2 := [(3, .int (v3 + 1)), (0, .ref v0), (1, .int v1)]) hM d_Mo_of_105 (j := 2) rfl rfl (Nat.le_of_ble_eq_true rfl) rfl ?_
    refine x_goto (tgt := 90) hM d_Mo_of_108 (by decide) ?_
    refine x_sub [1, 2, 0] rfl ?_
    exact F
theorem d_Mo_best_0 : decode b_Mo_best 0 = .ok (.aload_n 0, 1) := by decide +kernel
theorem d_Mo_best_1 : decode b_Mo_best 1 = .ok (.iload_n 1, 1) := by decide +kernel
theorem d_Mo_best_2 : decode b_Mo_best 2 = .ok (.invokevirtual 126, 3) := by decide +kernel
theorem d_Mo_best_5 : decode b_Mo_best 5 = .ok (.ifCond .eq 12, 3) := by decide +kernel
theorem d_Mo_best_8 : decode b_Mo_best 8 = .ok (.iload_n 2, 1) := by decide +kernel
theorem d_Mo_best_9 : decode b_Mo_best 9 = .ok (.iconst 1, 1) := by decide +kernel
theorem d_Mo_best_10 : decode b_Mo_best 10 = .ok (.iconst 3, 1) := by decide +kernel
theorem d_Mo_best_11 : decode b_Mo_best 11 = .ok (.invokestatic 118, 3) := by decide +kernel
theorem d_Mo_best_14 : decode b_Mo_best 14 = .ok (.ifCond .ne 6, 3) := by decide +kernel
theorem d_Mo_best_17 : decode b_Mo_best 17 = .ok (.bipush (-2), 2) := by decide +kernel
theorem d_Mo_best_19 : decode b_Mo_best 19 = .ok (.ireturn, 1) := by decide +kernel
theorem d_Mo_best_20 : decode b_Mo_best 20 = .ok (.aload_n 0, 1) := by decide +kernel
theorem d_Mo_best_21 : decode b_Mo_best 21 = .ok (.invokevirtual 191, 3) := by decide +kernel
theorem d_Mo_best_24 : decode b_Mo_best 24 = .ok (.iload_n 2, 1) := by decide +kernel
theorem d_Mo_best_25 : decode b_Mo_best 25 = .ok (.iconst 1, 1) := by decide +kernel
theorem d_Mo_best_26 : decode b_Mo_best 26 = .ok (.if_icmp .ne 12, 3) := by decide +kernel
theorem d_Mo_best_29 : decode b_Mo_best 29 = .ok (.aload_n 0, 1) := by decide +kernel
theorem d_Mo_best_30 : decode b_Mo_best 30 = .ok (.getfield 54, 3) := by decide +kernel
theorem d_Mo_best_33 : decode b_Mo_best 33 = .ok (.iload_n 1, 1) := by decide +kernel
theorem d_Mo_best_34 : decode b_Mo_best 34 = .ok (.iaload, 1) := by decide +kernel
theorem d_Mo_best_35 : decode b_Mo_best 35 = .ok (.goto 23, 3) := by decide +kernel
theorem d_Mo_best_38 : decode b_Mo_best 38 = .ok (.iload_n 2, 1) := by decide +kernel
theorem d_Mo_best_39 : decode b_Mo_best 39 = .ok (.iconst 2, 1) := by decide +kernel
theorem d_Mo_best_40 : decode b_Mo_best 40 = .ok (.if_icmp .ne 12, 3) := by decide +kernel
theorem d_Mo_best_43 : decode b_Mo_best 43 = .ok (.aload_n 0, 1) := by decide +kernel
theorem d_Mo_best_44 : decode b_Mo_best 44 = .ok (.getfield 57, 3) := by decide +kernel
theorem d_Mo_best_47 : decode b_Mo_best 47 = .ok (.iload_n 1, 1) := by decide +kernel
theorem d_Mo_best_48 : decode b_Mo_best 48 = .ok (.iaload, 1) := by decide +kernel
theorem d_Mo_best_49 : decode b_Mo_best 49 = .ok (.goto 9, 3) := by decide +kernel
theorem d_Mo_best_52 : decode b_Mo_best 52 = .ok (.aload_n 0, 1) := by decide +kernel
theorem d_Mo_best_53 : decode b_Mo_best 53 = .ok (.getfield 60, 3) := by decide +kernel
theorem d_Mo_best_56 : decode b_Mo_best 56 = .ok (.iload_n 1, 1) := by decide +kernel
theorem d_Mo_best_57 : decode b_Mo_best 57 = .ok (.iaload, 1) := by decide +kernel
theorem d_Mo_best_58 : decode b_Mo_best 58 = .ok (.istore_n 3, 1) := by decide +kernel
theorem d_Mo_best_59 : decode b_Mo_best 59 = .ok (.iload_n 3, 1) := by decide +kernel
theorem d_Mo_best_60 : decode b_Mo_best 60 = .ok (.iconst 1, 1) := by decide +kernel
theorem d_Mo_best_61 : decode b_Mo_best 61 = .ok (.if_icmp .ge 5, 3) := by decide +kernel
theorem d_Mo_best_64 : decode b_Mo_best 64 = .ok (.iconst (-1), 1) := by decide +kernel
theorem d_Mo_best_65 : decode b_Mo_best 65 = .ok (.ireturn, 1) := by decide +kernel
theorem d_Mo_best_66 : decode b_Mo_best 66 = .ok (.iconst 0, 1) := by decide +kernel
theorem d_Mo_best_67 : decode b_Mo_best 67 = .ok (.istore 4, 2) := by decide +kernel
theorem d_Mo_best_69 : decode b_Mo_best 69 = .ok (.iload 4, 2) := by decide +kernel
theorem d_Mo_best_71 : decode b_Mo_best 71 = .ok (.aload_n 0, 1) := by decide +kernel
theorem d_Mo_best_72 : decode b_Mo_best 72 = .ok (.getfield 112, 3) := by decide +kernel
theorem d_Mo_best_75 : decode b_Mo_best 75 = .ok (.if_icmp .ge 217, 3) := by decide +kernel
theorem d_Mo_best_78 : decode b_Mo_best 78 = .ok (.iconst 0, 1) := by decide +kernel
theorem d_Mo_best_79 : decode b_Mo_best 79 = .ok (.istore 5, 2) := by decide +kernel
theorem d_Mo_best_81 : decode b_Mo_best 81 = .ok (.iconst 1, 1) := by decide +kernel
theorem d_Mo_best_82 : decode b_Mo_best 82 = .ok (.istore 6, 2) := by decide +kernel
theorem d_Mo_best_84 : decode b_Mo_best 84 = .ok (.iconst 1, 1) := by decide +kernel
theorem d_Mo_best_85 : decode b_Mo_best 85 = .ok (.istore 7, 2) := by decide +kernel
theorem d_Mo_best_87 : decode b_Mo_best 87 = .ok (.iconst 0, 1) := by decide +kernel
theorem d_Mo_best_88 : decode b_Mo_best 88 = .ok (.istore 8, 2) := by decide +kernel
theorem d_Mo_best_90 : decode b_Mo_best 90 = .ok (.iload 8, 2) := by decide +kernel
theorem d_Mo_best_92 : decode b_Mo_best 92 = .ok (.aload_n 0, 1) := by decide +kernel
theorem d_Mo_best_93 : decode b_Mo_best 93 = .ok (.getfield 13, 3) := by decide +kernel
theorem d_Mo_best_96 : decode b_Mo_best 96 = .ok (.iload 4, 2) := by decide +kernel
theorem d_Mo_best_98 : decode b_Mo_best 98 = .ok (.iaload, 1) := by decide +kernel
theorem d_Mo_best_99 : decode b_Mo_best 99 = .ok (.if_icmp .ge 148, 3) := by decide +kernel
theorem d_Mo_best_102 : decode b_Mo_best 102 = .ok (.aload_n 0, 1) := by decide +kernel
theorem d_Mo_best_103 : decode b_Mo_best 103 = .ok (.getfield 35, 3) := by decide +kernel
theorem d_Mo_best_106 : decode b_Mo_best 106 = .ok (.bipush 36, 2) := by decide +kernel
theorem d_Mo_best_108 : decode b_Mo_best 108 = .ok (.iload_n 1, 1) := by decide +kernel
theorem d_Mo_best_109 : decode b_Mo_best 109 = .ok (.imul, 1) := by decide +kernel
theorem d_Mo_best_110 : decode b_Mo_best 110 = .ok (.iconst 3, 1) := by decide +kernel
theorem d_Mo_best_111 : decode b_Mo_best 111 = .ok (.iload 4, 2) := by decide +kernel
theorem d_Mo_best_113 : decode b_Mo_best 113 = .ok (.imul, 1) := by decide +kernel
theorem d_Mo_best_114 : decode b_Mo_best 114 = .ok (.iadd, 1) := by decide +kernel
theorem d_Mo_best_115 : decode b_Mo_best 115 = .ok (.iload 8, 2) := by decide +kernel
theorem d_Mo_best_117 : decode b_Mo_best 117 = .ok (.iadd, 1) := by decide +kernel
theorem d_Mo_best_118 : decode b_Mo_best 118 = .ok (.iaload, 1) := by decide +kernel
theorem d_Mo_best_119 : decode b_Mo_best 119 = .ok (.istore 9, 2) := by decide +kernel
theorem d_Mo_best_121 : decode b_Mo_best 121 = .ok (.iload 9, 2) := by decide +kernel
theorem d_Mo_best_123 : decode b_Mo_best 123 = .ok (.iconst (-1), 1) := by decide +kernel
theorem d_Mo_best_124 : decode b_Mo_best 124 = .ok (.if_icmp .ne 7, 3) := by decide +kernel
theorem d_Mo_best_127 : decode b_Mo_best 127 = .ok (.iconst (-1), 1) := by decide +kernel
theorem d_Mo_best_128 : decode b_Mo_best 128 = .ok (.goto 40, 3) := by decide +kernel
theorem d_Mo_best_131 : decode b_Mo_best 131 = .ok (.iload_n 2, 1) := by decide +kernel
theorem d_Mo_best_132 : decode b_Mo_best 132 = .ok (.iconst 1, 1) := by decide +kernel
theorem d_Mo_best_133 : decode b_Mo_best 133 = .ok (.if_icmp .ne 13, 3) := by decide +kernel
theorem d_Mo_best_136 : decode b_Mo_best 136 = .ok (.aload_n 0, 1) := by decide +kernel
theorem d_Mo_best_137 : decode b_Mo_best 137 = .ok (.getfield 54, 3) := by decide +kernel
theorem d_Mo_best_140 : decode b_Mo_best 140 = .ok (.iload 9, 2) := by decide +kernel
theorem d_Mo_best_142 : decode b_Mo_best 142 = .ok (.iaload, 1) := by decide +kernel
theorem d_Mo_best_143 : decode b_Mo_best 143 = .ok (.goto 25, 3) := by decide +kernel
theorem d_Mo_best_146 : decode b_Mo_best 146 = .ok (.iload_n 2, 1) := by decide +kernel
theorem d_Mo_best_147 : decode b_Mo_best 147 = .ok (.iconst 2, 1) := by decide +kernel
theorem d_Mo_best_148 : decode b_Mo_best 148 = .ok (.if_icmp .ne 13, 3) := by decide +kernel
theorem d_Mo_best_151 : decode b_Mo_best 151 = .ok (.aload_n 0, 1) := by decide +kernel
theorem d_Mo_best_152 : decode b_Mo_best 152 = .ok (.getfield 57, 3) := by decide +kernel
theorem d_Mo_best_155 : decode b_Mo_best 155 = .ok (.iload 9, 2) := by decide +kernel
theorem d_Mo_best_157 : decode b_Mo_best 157 = .ok (.iaload, 1) := by decide +kernel
theorem d_Mo_best_158 : decode b_Mo_best 158 = .ok (.goto 10, 3) := by decide +kernel
theorem d_Mo_best_161 : decode b_Mo_best 161 = .ok (.aload_n 0, 1) := by decide +kernel
theorem d_Mo_best_162 : decode b_Mo_best 162 = .ok (.getfield 60, 3) := by decide +kernel
theorem d_Mo_best_165 : decode b_Mo_best 165 = .ok (.iload 9, 2) := by decide +kernel
theorem d_Mo_best_167 : decode b_Mo_best 167 = .ok (.iaload, 1) := by decide +kernel
theorem d_Mo_best_168 : decode b_Mo_best 168 = .ok (.istore 10, 2) := by decide +kernel
theorem d_Mo_best_170 : decode b_Mo_best 170 = .ok (.iload 10, 2) := by decide +kernel
theorem d_Mo_best_172 : decode b_Mo_best 172 = .ok (.iconst (-1), 1) := by decide +kernel
theorem d_Mo_best_173 : decode b_Mo_best 173 = .ok (.if_icmp .eq 13, 3) := by decide +kernel
theorem d_Mo_best_176 : decode b_Mo_best 176 = .ok (.iload 10, 2) := by decide +kernel
theorem d_Mo_best_178 : decode b_Mo_best 178 = .ok (.iload_n 3, 1) := by decide +kernel
theorem d_Mo_best_179 : decode b_Mo_best 179 = .ok (.if_icmp .ge 7, 3) := by decide +kernel
theorem d_Mo_best_182 : decode b_Mo_best 182 = .ok (.iconst 1, 1) := by decide +kernel
theorem d_Mo_best_183 : decode b_Mo_best 183 = .ok (.goto 4, 3) := by decide +kernel
theorem d_Mo_best_186 : decode b_Mo_best 186 = .ok (.iconst 0, 1) := by decide +kernel
theorem d_Mo_best_187 : decode b_Mo_best 187 = .ok (.istore 11, 2) := by decide +kernel
theorem d_Mo_best_189 : decode b_Mo_best 189 = .ok (.iload 5, 2) := by decide +kernel
theorem d_Mo_best_191 : decode b_Mo_best 191 = .ok (.ifCond .ne 8, 3) := by decide +kernel
theorem d_Mo_best_194 : decode b_Mo_best 194 = .ok (.iload 11, 2) := by decide +kernel
theorem d_Mo_best_196 : decode b_Mo_best 196 = .ok (.ifCond .eq 7, 3) := by decide +kernel
theorem d_Mo_best_199 : decode b_Mo_best 199 = .ok (.iconst 1, 1) := by decide +kernel
theorem d_Mo_best_200 : decode b_Mo_best 200 = .ok (.goto 4, 3) := by decide +kernel
theorem d_Mo_best_203 : decode b_Mo_best 203 = .ok (.iconst 0, 1) := by decide +kernel
theorem d_Mo_best_204 : decode b_Mo_best 204 = .ok (.istore 5, 2) := by decide +kernel
theorem d_Mo_best_206 : decode b_Mo_best 206 = .ok (.iload 6, 2) := by decide +kernel
theorem d_Mo_best_208 : decode b_Mo_best 208 = .ok (.ifCond .eq 12, 3) := by decide +kernel
theorem d_Mo_best_211 : decode b_Mo_best 211 = .ok (.iload 11, 2) := by decide +kernel
theorem d_Mo_best_213 : decode b_Mo_best 213 = .ok (.ifCond .eq 7, 3) := by decide +kernel
theorem d_Mo_best_216 : decode b_Mo_best 216 = .ok (.iconst 1, 1) := by decide +kernel
theorem d_Mo_best_217 : decode b_Mo_best 217 = .ok (.goto 4, 3) := by decide +kernel
theorem d_Mo_best_220 : decode b_Mo_best 220 = .ok (.iconst 0, 1) := by decide +kernel
theorem d_Mo_best_221 : decode b_Mo_best 221 = .ok (.istore 6, 2) := by decide +kernel
theorem d_Mo_best_223 : decode b_Mo_best 223 = .ok (.iload 7, 2) := by decide +kernel
theorem d_Mo_best_225 : decode b_Mo_best 225 = .ok (.ifCond .eq 13, 3) := by decide +kernel
theorem d_Mo_best_228 : decode b_Mo_best 228 = .ok (.iload 10, 2) := by decide +kernel
theorem d_Mo_best_230 : decode b_Mo_best 230 = .ok (.iconst (-1), 1) := by decide +kernel
theorem d_Mo_best_231 : decode b_Mo_best 231 = .ok (.if_icmp .eq 7, 3) := by decide +kernel
theorem d_Mo_best_234 : decode b_Mo_best 234 = .ok (.iconst 1, 1) := by decide +kernel
theorem d_Mo_best_235 : decode b_Mo_best 235 = .ok (.goto 4, 3) := by decide +kernel
theorem d_Mo_best_238 : decode b_Mo_best 238 = .ok (.iconst 0, 1) := by decide +kernel
theorem d_Mo_best_239 : decode b_Mo_best 239 = .ok (.istore 7, 2) := by decide +kernel
theorem d_Mo_best_241 : decode b_Mo_best 241 = .ok (.iinc 8 1, 3) := by decide +kernel
theorem d_Mo_best_244 : decode b_Mo_best 244 = .ok (.goto (-154), 3) := by decide +kernel
theorem d_Mo_best_247 : decode b_Mo_best 247 = .ok (.iload_n 2, 1) := by decide +kernel
theorem d_Mo_best_248 : decode b_Mo_best 248 = .ok (.iconst 1, 1) := by decide +kernel
theorem d_Mo_best_249 : decode b_Mo_best 249 = .ok (.if_icmp .ne 11, 3) := by decide +kernel
theorem d_Mo_best_252 : decode b_Mo_best 252 = .ok (.iload 5, 2) := by decide +kernel
theorem d_Mo_best_254 : decode b_Mo_best 254 = .ok (.ifCond .eq 32, 3) := by decide +kernel
theorem d_Mo_best_257 : decode b_Mo_best 257 = .ok (.goto 26, 3) := by decide +kernel
theorem d_Mo_best_260 : decode b_Mo_best 260 = .ok (.iload_n 2, 1) := by decide +kernel
theorem d_Mo_best_261 : decode b_Mo_best 261 = .ok (.iconst 2, 1) := by decide +kernel
theorem d_Mo_best_262 : decode b_Mo_best 262 = .ok (.if_icmp .ne 11, 3) := by decide +kernel
theorem d_Mo_best_265 : decode b_Mo_best 265 = .ok (.iload 6, 2) := by decide +kernel
theorem d_Mo_best_267 : decode b_Mo_best 267 = .ok (.ifCond .eq 19, 3) := by decide +kernel
theorem d_Mo_best_270 : decode b_Mo_best 270 = .ok (.goto 13, 3) := by decide +kernel
theorem d_Mo_best_273 : decode b_Mo_best 273 = .ok (.iload 5, 2) := by decide +kernel
theorem d_Mo_best_275 : decode b_Mo_best 275 = .ok (.ifCond .eq 11, 3) := by decide +kernel
theorem d_Mo_best_278 : decode b_Mo_best 278 = .ok (.iload 7, 2) := by decide +kernel
theorem d_Mo_best_280 : decode b_Mo_best 280 = .ok (.ifCond .eq 6, 3) := by decide +kernel
theorem d_Mo_best_283 : decode b_Mo_best 283 = .ok (.iload 4, 2) := by decide +kernel
theorem d_Mo_best_285 : decode b_Mo_best 285 = .ok (.ireturn, 1) := by decide +kernel
theorem d_Mo_best_286 : decode b_Mo_best 286 = .ok (.iinc 4 1, 3) := by decide +kernel
theorem d_Mo_best_289 : decode b_Mo_best 289 = .ok (.goto (-220), 3) := by decide +kernel
theorem d_Mo_best_292 : decode b_Mo_best 292 = .ok (.iconst (-1), 1) := by decide +kernel
theorem d_Mo_best_293 : decode b_Mo_best 293 = .ok (.ireturn, 1) := by decide +kernel
set_option maxRecDepth 100000 in
set_option maxHeartbeats 4000000 in
theorem S_Mo_best_0 {G : Gc} {M : Mc} {Q : State → Prop} {K : Option Value → Hp → Prop} (hG : gok G) (hM : mok G M r_Mo_best Q K) (v0 : Nat) (v1 : Int32) (v2 : Int32) (h : Hp) (F : kT h v0 = 12 ∧ sem G r_Mo_isState [.ref v0, .int v1] h (fun u2 h1 => ∃ x3 : Int32, u2 = some (.int x3) ∧ ((x3 = 0 → K (some (.int (-2))) h1) ∧ (¬ x3 = 0 → (sem G r_Mo_isIn [.int v2, .int 1, .int 3] h1 (fun u5 h4 => ∃ x6 : Int32, u5 = some (.int x6) ∧ ((x6 = 0 → K (some (.int (-2))) h4) ∧ (¬ x6 = 0 → (kT h4 v0 = 12 ∧ sem G r_Mo_lay [.ref v0] h4 (fun u8 h7 => u8 = none ∧ (((v2 = 1 → (kT h7 v0 = 12 ∧ kR h7 v0 20 = some (rf h7 v0 20) ∧ kT h7 (rf h7 v0 20) = 50 ∧ vp_in v1 (kN h7 (rf h7 v0 20)))) ∧ (¬ v2 = 1 → ((v2 = 2 → (kT h7 v0 = 12 ∧ kR h7 v0 21 = some (rf h7 v0 21) ∧ kT h7 (rf h7 v0 21) = 50 ∧ vp_in v1 (kN h7 (rf h7 v0 21)))) ∧ (¬ v2 = 2 → (kT h7 v0 = 12 ∧ kR h7 v0 22 = some (rf h7 v0 22) ∧ kT h7 (rf h7 v0 22) = 50 ∧ vp_in v1 (kN h7 (rf h7 v0 22))))))) ∧ (∀ z9 : Int32, z9 = (if v2 = 1 then (kI h7 (rf h7 v0 20) (Int32.toNatClampNeg v1)) else (if v2 = 2 then (kI h7 (rf h7 v0 21) (Int32.toNatClampNeg v1)) else (kI h7 (rf h7 v0 22) (Int32.toNatClampNeg v1)))) → ((1 ≤ z9 → X G M Q 69 [(0, .ref v0), (1, .int v1), (2, .int v2), (3, .int z9), (4, .int 0)] [] h7) ∧ (¬ 1 ≤ z9 → K (some (.int (-1))) h7)))))))))))))) : X G M Q 0 [(0, .ref v0), (1, .int v1), (2, .int v2)] [] h := by
  refine x_aload_n hM d_Mo_best_0 rfl 0 rfl ?_
  refine x_iload_n hM d_Mo_best_1 rfl 1 rfl ?_
  obtain ⟨c28, F⟩ := F
  refine x_callV hG hM (r' := r_Mo_isState) (ci := 11) [.int v1] rfl rfl (Nat.le_of_ble_eq_true rfl) yk_Mo_isState ⟨Nat.le_of_ble_eq_true rfl, Nat.le_of_ble_eq_true rfl⟩ w_1028 w_1030 ws_Mo_isState rfl rfl (Nat.le_of_ble_eq_true rfl) d_Mo_best_2 c28 (sem_mono F ?_)
  intro u2 h1 F
  obtain ⟨x3, rfl, F⟩ := F
  refine x_if_eq (tgt := 17) hM d_Mo_best_5 (by decide) (fun q27 => ?_) (fun q27 => ?_)
  · replace F := F.1 q27
    refine x_bipush (v := (-2)) hM d_Mo_best_17 (by decide) ?_
    exact x_ireturn hM d_Mo_best_19 rfl F
  · replace F := F.2 q27
    refine x_iload_n hM d_Mo_best_8 rfl 2 rfl ?_
    refine x_iconst (v := 1) hM d_Mo_best_9 (by decide) ?_
    refine x_iconst (v := 3) hM d_Mo_best_10 (by decide) ?_
    refine x_callS hG hM (r' := r_Mo_isIn) [.int v2, .int 1, .int 3] rfl yk_Mo_isIn ⟨Nat.le_of_ble_eq_true rfl, Nat.le_of_ble_eq_true rfl⟩ w_1017 w_1018 rfl rfl (Nat.le_of_ble_eq_true rfl) d_Mo_best_11 (sem_mono F ?_)
    intro u5 h4 F
    obtain ⟨x6, rfl, F⟩ := F
    refine x_if_ne (tgt := 20) hM d_Mo_best_14 (by decide) (fun q26 => ?_) (fun q26 => ?_)
    · replace F := F.2 q26
      refine x_aload_n hM d_Mo_best_20 rfl 0 rfl ?_
      obtain ⟨c25, F⟩ := F
      refine x_callV hG hM (r' := r_Mo_lay) (ci := 11) [] rfl rfl (Nat.le_of_ble_eq_true rfl) yk_Mo_lay ⟨Nat.le_of_ble_eq_true rfl, Nat.le_of_ble_eq_true rfl⟩ w_1112 w_1114 ws_Mo_lay rfl rfl (Nat.le_of_ble_eq_true rfl) d_Mo_best_21 c25 (sem_mono F ?_)
      intro u8 h7 F
      obtain ⟨rfl, F⟩ := F
      refine x_iload_n hM d_Mo_best_24 rfl 2 rfl ?_
      refine x_iconst (v := 1) hM d_Mo_best_25 (by decide) ?_
      obtain ⟨S, F⟩ := F
      have JJ : ∀ (z9 : Int32) (ez9 : z9 = (if v2 = 1 then (kI h7 (rf h7 v0 20) (Int32.toNatClampNeg v1)) else (if v2 = 2 then (kI h7 (rf h7 v0 21) (Int32.toNatClampNeg v1)) else (kI h7 (rf h7 v0 22) (Int32.toNatClampNeg v1))))), X G M Q 58 [(0, .ref v0), (1, .int v1), (2, .int v2)] [.int z9] h7 := by
        intro z9 ez9
        replace F := F _ ez9
        refine x_istore_n (lv2 := [(3, .int z9), (0, .ref v0), (1, .int v1), (2, .int v2)]) hM d_Mo_best_58 rfl (Nat.le_of_ble_eq_true rfl) rfl ?_
        refine x_iload_n hM d_Mo_best_59 rfl 0 rfl ?_
        refine x_iconst (v := 1) hM d_Mo_best_60 (by decide) ?_
        refine x_icmp_ge (tgt := 66) hM d_Mo_best_61 (by decide) (fun q10 => ?_) (fun q10 => ?_)
        · replace F := F.1 q10
          refine x_iconst (v := 0) hM d_Mo_best_66 (by decide) ?_
          refine x_istore (lv2 := [(4, .int 0), (3, .int z9), (0, .ref v0), (1, .int v1), (2, .int v2)]) hM d_Mo_best_67 (Nat.le_of_ble_eq_true rfl) rfl ?_
          refine x_sub [2, 3, 4, 1, 0] rfl ?_
          exact F
        · replace F := F.2 q10
          refine x_iconst (v := (-1)) hM d_Mo_best_64 (by decide) ?_
          exact x_ireturn hM d_Mo_best_65 rfl F
      refine x_icmp_ne (tgt := 38) hM d_Mo_best_26 (by decide) (fun q11 => ?_) (fun q11 => ?_)
      · replace S := S.2 q11
        refine x_iload_n hM d_Mo_best_38 rfl 2 rfl ?_
        refine x_iconst (v := 2) hM d_Mo_best_39 (by decide) ?_
        refine x_icmp_ne (tgt := 52) hM d_Mo_best_40 (by decide) (fun q12 => ?_) (fun q12 => ?_)
        · replace S := S.2 q12
          refine x_aload_n hM d_Mo_best_52 rfl 0 rfl ?_
          obtain ⟨c13, S⟩ := S
          obtain ⟨c14, S⟩ := S
          refine x_getr hG hM ck_Mo 22 (Nat.le_of_ble_eq_true rfl) rfl rfl w_919 rfl d_Mo_best_53 c13 c14 ?_
          refine x_iload_n hM d_Mo_best_56 rfl 1 rfl ?_
          obtain ⟨c15, S⟩ := S
          have c16 := S
          refine x_iaload hG hM d_Mo_best_57 c15 c16 ?_
          exact JJ _ (Eq.symm (Eq.trans (if_neg q11) (if_neg q12)))
        · replace S := S.1 q12
          refine x_aload_n hM d_Mo_best_43 rfl 0 rfl ?_
          obtain ⟨c17, S⟩ := S
          obtain ⟨c18, S⟩ := S
          refine x_getr hG hM ck_Mo 21 (Nat.le_of_ble_eq_true rfl) rfl rfl w_918 rfl d_Mo_best_44 c17 c18 ?_
          refine x_iload_n hM d_Mo_best_47 rfl 1 rfl ?_
          obtain ⟨c19, S⟩ := S
          have c20 := S
          refine x_iaload hG hM d_Mo_best_48 c19 c20 ?_
          refine x_goto (tgt := 58) hM d_Mo_best_49 (by decide) ?_
          exact JJ _ (Eq.symm (Eq.trans (if_neg q11) (if_pos q12)))
      · replace S := S.1 q11
        refine x_aload_n hM d_Mo_best_29 rfl 0 rfl ?_
        obtain ⟨c21, S⟩ := S
        obtain ⟨c22, S⟩ := S
        refine x_getr hG hM ck_Mo 20 (Nat.le_of_ble_eq_true rfl) rfl rfl w_917 rfl d_Mo_best_30 c21 c22 ?_
        refine x_iload_n hM d_Mo_best_33 rfl 1 rfl ?_
        obtain ⟨c23, S⟩ := S
        have c24 := S
        refine x_iaload hG hM d_Mo_best_34 c23 c24 ?_
        refine x_goto (tgt := 58) hM d_Mo_best_35 (by decide) ?_
        exact JJ _ (Eq.symm (if_pos q11))
    · replace F := F.1 q26
      refine x_bipush (v := (-2)) hM d_Mo_best_17 (by decide) ?_
      exact x_ireturn hM d_Mo_best_19 rfl F
set_option maxRecDepth 100000 in
set_option maxHeartbeats 4000000 in
theorem S_Mo_best_69 {G : Gc} {M : Mc} {Q : State → Prop} {K : Option Value → Hp → Prop} (hG : gok G) (hM : mok G M r_Mo_best Q K) (v0 : Nat) (v1 : Int32) (v2 : Int32) (v3 : Int32) (v4 : Int32) (h : Hp) (F : kT h v0 = 12 ∧ (((kI h v0 3) ≤ v4 → K (some (.int (-1))) h) ∧ (¬ (kI h v0 3) ≤ v4 → X G M Q 90 [(0, .ref v0), (1, .int v1), (2, .int v2), (3, .int v3), (4, .int v4), (5, .int 0), (6, .int 1), (7, .int 1), (8, .int 0)] [] h))) : X G M Q 69 [(0, .ref v0), (1, .int v1), (2, .int v2), (3, .int v3), (4, .int v4)] [] h := by
  refine x_iload hM d_Mo_best_69 4 rfl ?_
  refine x_aload_n hM d_Mo_best_71 rfl 0 rfl ?_
  obtain ⟨c2, F⟩ := F
  refine x_geti hG hM ck_Mo 3 (Nat.le_of_ble_eq_true rfl) rfl rfl w_900 rfl d_Mo_best_72 c2 ?_
  refine x_icmp_ge (tgt := 292) hM d_Mo_best_75 (by decide) (fun q1 => ?_) (fun q1 => ?_)
  · replace F := F.1 q1
    refine x_iconst (v := (-1)) hM d_Mo_best_292 (by decide) ?_
    exact x_ireturn hM d_Mo_best_293 rfl F
  · replace F := F.2 q1
    refine x_iconst (v := 0) hM d_Mo_best_78 (by decide) ?_
    refine x_istore (lv2 := [(5, .int 0), (0, .ref v0), (1, .int v1), (2, .int v2), (3, .int v3), (4, .int v4)]) hM d_Mo_best_79 (Nat.le_of_ble_eq_true rfl) rfl ?_
    refine x_iconst (v := 1) hM d_Mo_best_81 (by decide) ?_
    refine x_istore (lv2 := [(6, .int 1), (5, .int 0), (0, .ref v0), (1, .int v1), (2, .int v2), (3, .int v3), (4, .int v4)]) hM d_Mo_best_82 (Nat.le_of_ble_eq_true rfl) rfl ?_
    refine x_iconst (v := 1) hM d_Mo_best_84 (by decide) ?_
    refine x_istore (lv2 := [(7, .int 1), (6, .int 1), (5, .int 0), (0, .ref v0), (1, .int v1), (2, .int v2), (3, .int v3), (4, .int v4)]) hM d_Mo_best_85 (Nat.le_of_ble_eq_true rfl) rfl ?_
    refine x_iconst (v := 0) hM d_Mo_best_87 (by decide) ?_
    refine x_istore (lv2 := [(8, .int 0), (7, .int 1), (6, .int 1), (5, .int 0), (0, .ref v0), (1, .int v1), (2, .int v2), (3, .int v3), (4, .int v4)]) hM d_Mo_best_88 (Nat.le_of_ble_eq_true rfl) rfl ?_
    refine x_sub [4, 5, 6, 7, 8, 3, 2, 1, 0] rfl ?_
    exact F
set_option maxRecDepth 100000 in
set_option maxHeartbeats 4000000 in
theorem S_Mo_best_90 {G : Gc} {M : Mc} {Q : State → Prop} {K : Option Value → Hp → Prop} (hG : gok G) (hM : mok G M r_Mo_best Q K) (v0 : Nat) (v1 : Int32) (v2 : Int32) (v3 : Int32) (v4 : Int32) (v5 : Int32) (v6 : Int32) (v7 : Int32) (v8 : Int32) (h : Hp) (F : kT h v0 = 12 ∧ kR h v0 4 = some (rf h v0 4) ∧ (kT h (rf h v0 4) = 50 ∧ vp_in v4 (kN h (rf h v0 4)) ∧ (((kI h (rf h v0 4) (Int32.toNatClampNeg v4)) ≤ v8 → ((v2 = 1 → ((v5 = 0 → X G M Q 69 [(0, .ref v0), (1, .int v1), (2, .int v2), (3, .int v3), (4, .int (v4 + 1))] [] h) ∧ (¬ v5 = 0 → K (some (.int v4)) h))) ∧ (¬ v2 = 1 → ((v2 = 2 → ((v6 = 0 → X G M Q 69 [(0, .ref v0), (1, .int v1), (2, .int v2), (3, .int v3), (4, .int (v4 + 1))] [] h) ∧ (¬ v6 = 0 → K (some (.int v4)) h))) ∧ (¬ v2 = 2 → ((v5 = 0 → X G M Q 69 [(0, .ref v0), (1, .int v1), (2, .int v2), (3, .int v3), (4, .int (v4 + 1))] [] h) ∧ (¬ v5 = 0 → ((v7 = 0 → X G M Q 69 [(0, .ref v0), (1, .int v1), (2, .int v2), (3, .int v3), (4, .int (v4 + 1))] [] h) ∧ (¬ v7 = 0 → K (some (.int v4)) h))))))))) ∧ (¬ (kI h (rf h v0 4) (Int32.toNatClampNeg v4)) ≤ v8 → (kT h v0 = 12 ∧ kR h v0 14 = some (rf h v0 14) ∧ (kT h (rf h v0 14) = 50 ∧ vp_in (((36 * v1) + (3 * v4)) + v8) (kN h (rf h v0 14)) ∧ ((¬ (kI h (rf h v0 14) (Int32.toNatClampNeg (((36 * v1) + (3 * v4)) + v8))) = (-1) → ((v2 = 1 → (kT h v0 = 12 ∧ kR h v0 20 = some (rf h v0 20) ∧ kT h (rf h v0 20) = 50 ∧ vp_in (kI h (rf h v0 14) (Int32.toNatClampNeg (((36 * v1) + (3 * v4)) + v8))) (kN h (rf h v0 20)))) ∧ (¬ v2 = 1 → ((v2 = 2 → (kT h v0 = 12 ∧ kR h v0 21 = some (rf h v0 21) ∧ kT h (rf h v0 21) = 50 ∧ vp_in (kI h (rf h v0 14) (Int32.toNatClampNeg (((36 * v1) + (3 * v4)) + v8))) (kN h (rf h v0 21)))) ∧ (¬ v2 = 2 → (kT h v0 = 12 ∧ kR h v0 22 = some (rf h v0 22) ∧ kT h (rf h v0 22) = 50 ∧ vp_in (kI h (rf h v0 14) (Int32.toNatClampNeg (((36 * v1) + (3 * v4)) + v8))) (kN h (rf h v0 22)))))))) ∧ (∀ z7 : Int32, z7 = (if (kI h (rf h v0 14) (Int32.toNatClampNeg (((36 * v1) + (3 * v4)) + v8))) = (-1) then (-1) else (if v2 = 1 then (kI h (rf h v0 20) (Int32.toNatClampNeg (kI h (rf h v0 14) (Int32.toNatClampNeg (((36 * v1) + (3 * v4)) + v8))))) else (if v2 = 2 then (kI h (rf h v0 21) (Int32.toNatClampNeg (kI h (rf h v0 14) (Int32.toNatClampNeg (((36 * v1) + (3 * v4)) + v8))))) else (kI h (rf h v0 22) (Int32.toNatClampNeg (kI h (rf h v0 14) (Int32.toNatClampNeg (((36 * v1) + (3 * v4)) + v8)))))))) → (∀ z8 : Int32, z8 = (if z7 = (-1) then 0 else (if v3 ≤ z7 then 0 else 1)) → (∀ z9 : Int32, z9 = (if v5 = 0 then (if z8 = 0 then 0 else 1) else 1) → (∀ z10 : Int32, z10 = (if v6 = 0 then 0 else (if z8 = 0 then 0 else 1)) → (∀ z11 : Int32, z11 = (if v7 = 0 then 0 else (if z7 = (-1) then 0 else 1)) → X G M Q 90 [(0, .ref v0), (1, .int v1), (2, .int v2), (3, .int v3), (4, .int v4), (5, .int z9), (6, .int z10), (7, .int z11), (8, .int (v8 + 1))] [] h)))))))))))) : X G M Q 90 [(0, .ref v0), (1, .int v1), (2, .int v2), (3, .int v3), (4, .int v4), (5, .int v5), (6, .int v6), (7, .int v7), (8, .int v8)] [] h := by
  refine x_iload hM d_Mo_best_90 8 rfl ?_
  refine x_aload_n hM d_Mo_best_92 rfl 0 rfl ?_
  obtain ⟨c42, F⟩ := F
  obtain ⟨c43, F⟩ := F
  refine x_getr hG hM ck_Mo 4 (Nat.le_of_ble_eq_true rfl) rfl rfl w_901 rfl d_Mo_best_93 c42 c43 ?_
  refine x_iload hM d_Mo_best_96 4 rfl ?_
  obtain ⟨c40, F⟩ := F
  obtain ⟨c41, F⟩ := F
  refine x_iaload hG hM d_Mo_best_98 c40 c41 ?_
  refine x_icmp_ge (tgt := 247) hM d_Mo_best_99 (by decide) (fun q39 => ?_) (fun q39 => ?_)
  · replace F := F.1 q39
    refine x_iload_n hM d_Mo_best_247 rfl 2 rfl ?_
    refine x_iconst (v := 1) hM d_Mo_best_248 (by decide) ?_
    refine x_icmp_ne (tgt := 260) hM d_Mo_best_249 (by decide) (fun q6 => ?_) (fun q6 => ?_)
    · replace F := F.2 q6
      refine x_iload_n hM d_Mo_best_260 rfl 2 rfl ?_
      refine x_iconst (v := 2) hM d_Mo_best_261 (by decide) ?_
      refine x_icmp_ne (tgt := 273) hM d_Mo_best_262 (by decide) (fun q4 => ?_) (fun q4 => ?_)
      · replace F := F.2 q4
        refine x_iload hM d_Mo_best_273 5 rfl ?_
        refine x_if_eq (tgt := 286) hM d_Mo_best_275 (by decide) (fun q2 => ?_) (fun q2 => ?_)
        · replace F := F.1 q2
          refine x_iinc (v := (v4 + 1)) (lv2 := [(4, .int (v4 + 1)), (0, .ref v0), (1, .int v1), (2, .int v2), (3, .int v3), (5, .int v5), (6, .int v6), (7, .int v7), (8, .int v8)]) hM d_Mo_best_286 (j := 4) rfl rfl (Nat.le_of_ble_eq_true rfl) rfl ?_
          refine x_goto (tgt := 69) hM d_Mo_best_289 (by decide) ?_
          refine x_sub [1, 2, 3, 4, 0] rfl ?_
          exact F
        · replace F := F.2 q2
          refine x_iload hM d_Mo_best_278 7 rfl ?_
          refine x_if_eq (tgt := 286) hM d_Mo_best_280 (by decide) (fun q1 => ?_) (fun q1 => ?_)
          · replace F := F.1 q1
            refine x_iinc (v := (v4 + 1)) (lv2 := [(4, .int (v4 + 1)), (0, .ref v0), (1, .int v1), (2, .int v2), (3, .int v3), (5, .int v5), (6, .int v6), (7, .int v7), (8, .int v8)]) hM d_Mo_best_286 (j := 4) rfl rfl (Nat.le_of_ble_eq_true rfl) rfl ?_
            refine x_goto (tgt := 69) hM d_Mo_best_289 (by decide) ?_
            refine x_sub [1, 2, 3, 4, 0] rfl ?_
            exact F
          · replace F := F.2 q1
            refine x_iload hM d_Mo_best_283 4 rfl ?_
            exact x_ireturn hM d_Mo_best_285 rfl F
      · replace F := F.1 q4
        refine x_iload hM d_Mo_best_265 6 rfl ?_
        refine x_if_eq (tgt := 286) hM d_Mo_best_267 (by decide) (fun q3 => ?_) (fun q3 => ?_)
        · replace F := F.1 q3
          refine x_iinc (v := (v4 + 1)) (lv2 := [(4, .int (v4 + 1)), (0, .ref v0), (1, .int v1), (2, .int v2), (3, .int v3), (5, .int v5), (6, .int v6), (7, .int v7), (8, .int v8)]) hM d_Mo_best_286 (j := 4) rfl rfl (Nat.le_of_ble_eq_true rfl) rfl ?_
          refine x_goto (tgt := 69) hM d_Mo_best_289 (by decide) ?_
          refine x_sub [1, 2, 3, 4, 0] rfl ?_
          exact F
        · replace F := F.2 q3
          refine x_goto (tgt := 283) hM d_Mo_best_270 (by decide) ?_
          refine x_iload hM d_Mo_best_283 4 rfl ?_
          exact x_ireturn hM d_Mo_best_285 rfl F
    · replace F := F.1 q6
      refine x_iload hM d_Mo_best_252 5 rfl ?_
      refine x_if_eq (tgt := 286) hM d_Mo_best_254 (by decide) (fun q5 => ?_) (fun q5 => ?_)
      · replace F := F.1 q5
        refine x_iinc (v := (v4 + 1)) (lv2 := [(4, .int (v4 + 1)), (0, .ref v0), (1, .int v1), (2, .int v2), (3, .int v3), (5, .int v5), (6, .int v6), (7, .int v7), (8, .int v8)]) hM d_Mo_best_286 (j := 4) rfl rfl (Nat.le_of_ble_eq_true rfl) rfl ?_
        refine x_goto (tgt := 69) hM d_Mo_best_289 (by decide) ?_
        refine x_sub [1, 2, 3, 4, 0] rfl ?_
        exact F
      · replace F := F.2 q5
        refine x_goto (tgt := 283) hM d_Mo_best_257 (by decide) ?_
        refine x_iload hM d_Mo_best_283 4 rfl ?_
        exact x_ireturn hM d_Mo_best_285 rfl F
  · replace F := F.2 q39
    refine x_aload_n hM d_Mo_best_102 rfl 0 rfl ?_
    obtain ⟨c37, F⟩ := F
    obtain ⟨c38, F⟩ := F
    refine x_getr hG hM ck_Mo 14 (Nat.le_of_ble_eq_true rfl) rfl rfl w_911 rfl d_Mo_best_103 c37 c38 ?_
    refine x_bipush (v := 36) hM d_Mo_best_106 (by decide) ?_
    refine x_iload_n hM d_Mo_best_108 rfl 1 rfl ?_
    refine x_imul hM d_Mo_best_109 ?_
    refine x_iconst (v := 3) hM d_Mo_best_110 (by decide) ?_
    refine x_iload hM d_Mo_best_111 4 rfl ?_
    refine x_imul hM d_Mo_best_113 ?_
    refine x_iadd hM d_Mo_best_114 ?_
    refine x_iload hM d_Mo_best_115 8 rfl ?_
    refine x_iadd hM d_Mo_best_117 ?_
    obtain ⟨c35, F⟩ := F
    obtain ⟨c36, F⟩ := F
    refine x_iaload hG hM d_Mo_best_118 c35 c36 ?_
    refine x_istore (lv2 := [(9, .int (kI h (rf h v0 14) (Int32.toNatClampNeg (((36 * v1) + (3 * v4)) + v8)))), (0, .ref v0), (1, .int v1), (2, .int v2), (3, .int v3), (4, .int v4), (5, .int v5), (6, .int v6), (7, .int v7), (8, .int v8)]) hM d_Mo_best_119 (Nat.le_of_ble_eq_true rfl) rfl ?_
    refine x_iload hM d_Mo_best_121 0 rfl ?_
    refine x_iconst (v := (-1)) hM d_Mo_best_123 (by decide) ?_
    obtain ⟨S, F⟩ := F
    have JJ : ∀ (z7 : Int32) (ez7 : z7 = (if (kI h (rf h v0 14) (Int32.toNatClampNeg (((36 * v1) + (3 * v4)) + v8))) = (-1) then (-1) else (if v2 = 1 then (kI h (rf h v0 20) (Int32.toNatClampNeg (kI h (rf h v0 14) (Int32.toNatClampNeg (((36 * v1) + (3 * v4)) + v8))))) else (if v2 = 2 then (kI h (rf h v0 21) (Int32.toNatClampNeg (kI h (rf h v0 14) (Int32.toNatClampNeg (((36 * v1) + (3 * v4)) + v8))))) else (kI h (rf h v0 22) (Int32.toNatClampNeg (kI h (rf h v0 14) (Int32.toNatClampNeg (((36 * v1) + (3 * v4)) + v8))))))))), X G M Q 168 [(0, .ref v0), (1, .int v1), (2, .int v2), (3, .int v3), (4, .int v4), (5, .int v5), (6, .int v6), (7, .int v7), (8, .int v8)] [.int z7] h := by
      intro z7 ez7
      replace F := F _ ez7
      refine x_istore (lv2 := [(10, .int z7), (0, .ref v0), (1, .int v1), (2, .int v2), (3, .int v3), (4, .int v4), (5, .int v5), (6, .int v6), (7, .int v7), (8, .int v8)]) hM d_Mo_best_168 (Nat.le_of_ble_eq_true rfl) rfl ?_
      refine x_iload hM d_Mo_best_170 0 rfl ?_
      refine x_iconst (v := (-1)) hM d_Mo_best_172 (by decide) ?_
      have JJ : ∀ (z8 : Int32) (ez8 : z8 = (if z7 = (-1) then 0 else (if v3 ≤ z7 then 0 else 1))), X G M Q 187 [(0, .ref v0), (1, .int v1), (2, .int v2), (3, .int v3), (4, .int v4), (5, .int v5), (6, .int v6), (7, .int v7), (8, .int v8), (10, .int z7)] [.int z8] h := by
        intro z8 ez8
        replace F := F _ ez8
        refine x_istore (lv2 := [(11, .int z8), (0, .ref v0), (1, .int v1), (2, .int v2), (3, .int v3), (4, .int v4), (5, .int v5), (6, .int v6), (7, .int v7), (8, .int v8), (10, .int z7)]) hM d_Mo_best_187 (Nat.le_of_ble_eq_true rfl) rfl ?_
        refine x_iload hM d_Mo_best_189 6 rfl ?_
        have JJ : ∀ (z9 : Int32) (ez9 : z9 = (if v5 = 0 then (if z8 = 0 then 0 else 1) else 1)), X G M Q 204 [(0, .ref v0), (1, .int v1), (2, .int v2), (3, .int v3), (4, .int v4), (6, .int v6), (7, .int v7), (8, .int v8), (10, .int z7), (11, .int z8)] [.int z9] h := by
          intro z9 ez9
          replace F := F _ ez9
          refine x_istore (lv2 := [(5, .int z9), (0, .ref v0), (1, .int v1), (2, .int v2), (3, .int v3), (4, .int v4), (6, .int v6), (7, .int v7), (8, .int v8), (10, .int z7), (11, .int z8)]) hM d_Mo_best_204 (Nat.le_of_ble_eq_true rfl) rfl ?_
          refine x_iload hM d_Mo_best_206 6 rfl ?_
          have JJ : ∀ (z10 : Int32) (ez10 : z10 = (if v6 = 0 then 0 else (if z8 = 0 then 0 else 1))), X G M Q 221 [(0, .ref v0), (1, .int v1), (2, .int v2), (3, .int v3), (4, .int v4), (5, .int z9), (7, .int v7), (8, .int v8), (10, .int z7)] [.int z10] h := by
            intro z10 ez10
            replace F := F _ ez10
            refine x_istore (lv2 := [(6, .int z10), (0, .ref v0), (1, .int v1), (2, .int v2), (3, .int v3), (4, .int v4), (5, .int z9), (7, .int v7), (8, .int v8), (10, .int z7)]) hM d_Mo_best_221 (Nat.le_of_ble_eq_true rfl) rfl ?_
            refine x_iload hM d_Mo_best_223 7 rfl ?_
            have JJ : ∀ (z11 : Int32) (ez11 : z11 = (if v7 = 0 then 0 else (if z7 = (-1) then 0 else 1))), X G M Q 239 [(0, .ref v0), (1, .int v1), (2, .int v2), (3, .int v3), (4, .int v4), (5, .int z9), (6, .int z10), (8, .int v8)] [.int z11] h := by
              intro z11 ez11
              replace F := F _ ez11
              refine x_istore (lv2 := [(7, .int z11), (0, .ref v0), (1, .int v1), (2, .int v2), (3, .int v3), (4, .int v4), (5, .int z9), (6, .int z10), (8, .int v8)]) hM d_Mo_best_239 (Nat.le_of_ble_eq_true rfl) rfl ?_
              refine x_iinc (v := (v8 + 1)) (lv2 := [(8, .int (v8 + 1)), (7, .int z11), (0, .ref v0), (1, .int v1), (2, .int v2), (3, .int v3), (4, .int v4), (5, .int z9), (6, .int z10)]) hM d_Mo_best_241 (j := 8) rfl rfl (Nat.le_of_ble_eq_true rfl) rfl ?_
              refine x_goto (tgt := 90) hM d_Mo_best_244 (by decide) ?_
              refine x_sub [2, 3, 4, 5, 6, 7, 8, 1, 0] rfl ?_
              exact F
            refine x_if_eq (tgt := 238) hM d_Mo_best_225 (by decide) (fun q12 => ?_) (fun q12 => ?_)
            · refine x_iconst (v := 0) hM d_Mo_best_238 (by decide) ?_
              refine x_sub [1, 2, 3, 4, 5, 6, 0, 8] rfl ?_
              exact JJ _ (Eq.symm (if_pos q12))
            · refine x_iload hM d_Mo_best_228 9 rfl ?_
              refine x_iconst (v := (-1)) hM d_Mo_best_230 (by decide) ?_
              refine x_icmp_eq (tgt := 238) hM d_Mo_best_231 (by decide) (fun q13 => ?_) (fun q13 => ?_)
              · refine x_iconst (v := 0) hM d_Mo_best_238 (by decide) ?_
                refine x_sub [1, 2, 3, 4, 5, 6, 0, 8] rfl ?_
                exact JJ _ (Eq.symm (Eq.trans (if_neg q12) (if_pos q13)))
              · refine x_iconst (v := 1) hM d_Mo_best_234 (by decide) ?_
                refine x_goto (tgt := 239) hM d_Mo_best_235 (by decide) ?_
                refine x_sub [1, 2, 3, 4, 5, 6, 0, 8] rfl ?_
                exact JJ _ (Eq.symm (Eq.trans (if_neg q12) (if_neg q13)))
          refine x_if_eq (tgt := 220) hM d_Mo_best_208 (by decide) (fun q14 => ?_) (fun q14 => ?_)
          · refine x_iconst (v := 0) hM d_Mo_best_220 (by decide) ?_
            refine x_sub [1, 2, 3, 4, 5, 0, 7, 8, 9] rfl ?_
            exact JJ _ (Eq.symm (if_pos q14))
          · refine x_iload hM d_Mo_best_211 10 rfl ?_
            refine x_if_eq (tgt := 220) hM d_Mo_best_213 (by decide) (fun q15 => ?_) (fun q15 => ?_)
            · refine x_iconst (v := 0) hM d_Mo_best_220 (by decide) ?_
              refine x_sub [1, 2, 3, 4, 5, 0, 7, 8, 9] rfl ?_
              exact JJ _ (Eq.symm (Eq.trans (if_neg q14) (if_pos q15)))
            · refine x_iconst (v := 1) hM d_Mo_best_216 (by decide) ?_
              refine x_goto (tgt := 221) hM d_Mo_best_217 (by decide) ?_
              refine x_sub [1, 2, 3, 4, 5, 0, 7, 8, 9] rfl ?_
              exact JJ _ (Eq.symm (Eq.trans (if_neg q14) (if_neg q15)))
        refine x_if_ne (tgt := 199) hM d_Mo_best_191 (by decide) (fun q16 => ?_) (fun q16 => ?_)
        · refine x_iconst (v := 1) hM d_Mo_best_199 (by decide) ?_
          refine x_goto (tgt := 204) hM d_Mo_best_200 (by decide) ?_
          refine x_sub [1, 2, 3, 4, 5, 7, 8, 9, 10, 0] rfl ?_
          exact JJ _ (Eq.symm (if_neg q16))
        · refine x_iload hM d_Mo_best_194 0 rfl ?_
          refine x_if_eq (tgt := 203) hM d_Mo_best_196 (by decide) (fun q17 => ?_) (fun q17 => ?_)
          · refine x_iconst (v := 0) hM d_Mo_best_203 (by decide) ?_
            refine x_sub [1, 2, 3, 4, 5, 7, 8, 9, 10, 0] rfl ?_
            exact JJ _ (Eq.symm (Eq.trans (if_pos q16) (if_pos q17)))
          · refine x_iconst (v := 1) hM d_Mo_best_199 (by decide) ?_
            refine x_goto (tgt := 204) hM d_Mo_best_200 (by decide) ?_
            refine x_sub [1, 2, 3, 4, 5, 7, 8, 9, 10, 0] rfl ?_
            exact JJ _ (Eq.symm (Eq.trans (if_pos q16) (if_neg q17)))
      refine x_icmp_eq (tgt := 186) hM d_Mo_best_173 (by decide) (fun q18 => ?_) (fun q18 => ?_)
      · refine x_iconst (v := 0) hM d_Mo_best_186 (by decide) ?_
        refine x_sub [1, 2, 3, 4, 5, 6, 7, 8, 9, 0] rfl ?_
        exact JJ _ (Eq.symm (if_pos q18))
      · refine x_iload hM d_Mo_best_176 0 rfl ?_
        refine x_iload_n hM d_Mo_best_178 rfl 4 rfl ?_
        refine x_icmp_ge (tgt := 186) hM d_Mo_best_179 (by decide) (fun q19 => ?_) (fun q19 => ?_)
        · refine x_iconst (v := 0) hM d_Mo_best_186 (by decide) ?_
          refine x_sub [1, 2, 3, 4, 5, 6, 7, 8, 9, 0] rfl ?_
          exact JJ _ (Eq.symm (Eq.trans (if_neg q18) (if_pos q19)))
        · refine x_iconst (v := 1) hM d_Mo_best_182 (by decide) ?_
          refine x_goto (tgt := 187) hM d_Mo_best_183 (by decide) ?_
          refine x_sub [1, 2, 3, 4, 5, 6, 7, 8, 9, 0] rfl ?_
          exact JJ _ (Eq.symm (Eq.trans (if_neg q18) (if_neg q19)))
    refine x_icmp_ne (tgt := 131) hM d_Mo_best_124 (by decide) (fun q20 => ?_) (fun q20 => ?_)
    · replace S := S q20
      refine x_iload_n hM d_Mo_best_131 rfl 3 rfl ?_
      refine x_iconst (v := 1) hM d_Mo_best_132 (by decide) ?_
      refine x_icmp_ne (tgt := 146) hM d_Mo_best_133 (by decide) (fun q21 => ?_) (fun q21 => ?_)
      · replace S := S.2 q21
        refine x_iload_n hM d_Mo_best_146 rfl 3 rfl ?_
        refine x_iconst (v := 2) hM d_Mo_best_147 (by decide) ?_
        refine x_icmp_ne (tgt := 161) hM d_Mo_best_148 (by decide) (fun q22 => ?_) (fun q22 => ?_)
        · replace S := S.2 q22
          refine x_aload_n hM d_Mo_best_161 rfl 1 rfl ?_
          obtain ⟨c23, S⟩ := S
          obtain ⟨c24, S⟩ := S
          refine x_getr hG hM ck_Mo 22 (Nat.le_of_ble_eq_true rfl) rfl rfl w_919 rfl d_Mo_best_162 c23 c24 ?_
          refine x_iload hM d_Mo_best_165 0 rfl ?_
          obtain ⟨c25, S⟩ := S
          have c26 := S
          refine x_iaload hG hM d_Mo_best_167 c25 c26 ?_
          refine x_sub [1, 2, 3, 4, 5, 6, 7, 8, 9] rfl ?_
          exact JJ _ (Eq.symm (Eq.trans (if_neg q20) (Eq.trans (if_neg q21) (if_neg q22))))
        · replace S := S.1 q22
          refine x_aload_n hM d_Mo_best_151 rfl 1 rfl ?_
          obtain ⟨c27, S⟩ := S
          obtain ⟨c28, S⟩ := S
          refine x_getr hG hM ck_Mo 21 (Nat.le_of_ble_eq_true rfl) rfl rfl w_918 rfl d_Mo_best_152 c27 c28 ?_
          refine x_iload hM d_Mo_best_155 0 rfl ?_
          obtain ⟨c29, S⟩ := S
          have c30 := S
          refine x_iaload hG hM d_Mo_best_157 c29 c30 ?_
          refine x_goto (tgt := 168) hM d_Mo_best_158 (by decide) ?_
          refine x_sub [1, 2, 3, 4, 5, 6, 7, 8, 9] rfl ?_
          exact JJ _ (Eq.symm (Eq.trans (if_neg q20) (Eq.trans (if_neg q21) (if_pos q22))))
      · replace S := S.1 q21
        refine x_aload_n hM d_Mo_best_136 rfl 1 rfl ?_
        obtain ⟨c31, S⟩ := S
        obtain ⟨c32, S⟩ := S
        refine x_getr hG hM ck_Mo 20 (Nat.le_of_ble_eq_true rfl) rfl rfl w_917 rfl d_Mo_best_137 c31 c32 ?_
        refine x_iload hM d_Mo_best_140 0 rfl ?_
        obtain ⟨c33, S⟩ := S
        have c34 := S
        refine x_iaload hG hM d_Mo_best_142 c33 c34 ?_
        refine x_goto (tgt := 168) hM d_Mo_best_143 (by decide) ?_
        refine x_sub [1, 2, 3, 4, 5, 6, 7, 8, 9] rfl ?_
        exact JJ _ (Eq.symm (Eq.trans (if_neg q20) (if_pos q21)))
    · refine x_iconst (v := (-1)) hM d_Mo_best_127 (by decide) ?_
      refine x_goto (tgt := 168) hM d_Mo_best_128 (by decide) ?_
      refine x_sub [1, 2, 3, 4, 5, 6, 7, 8, 9] rfl ?_
      exact JJ _ (Eq.symm (if_pos q20))
