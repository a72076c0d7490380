theorem d_WP_aim_0 : decode b_WP_aim 0 = .ok (.aload_n 0, 1) := by decide +kernel
theorem d_WP_aim_1 : decode b_WP_aim 1 = .ok (.getfield 12, 3) := by decide +kernel
theorem d_WP_aim_4 : decode b_WP_aim 4 = .ok (.iload_n 1, 1) := by decide +kernel
theorem d_WP_aim_5 : decode b_WP_aim 5 = .ok (.iload_n 2, 1) := by decide +kernel
theorem d_WP_aim_6 : decode b_WP_aim 6 = .ok (.iload_n 3, 1) := by decide +kernel
theorem d_WP_aim_7 : decode b_WP_aim 7 = .ok (.invokevirtual 123, 3) := by decide +kernel
theorem d_WP_aim_10 : decode b_WP_aim 10 = .ok (.ifCond .ne 6, 3) := by decide +kernel
theorem d_WP_aim_13 : decode b_WP_aim 13 = .ok (.bipush (-2), 2) := by decide +kernel
theorem d_WP_aim_15 : decode b_WP_aim 15 = .ok (.ireturn, 1) := by decide +kernel
theorem d_WP_aim_16 : decode b_WP_aim 16 = .ok (.aload_n 0, 1) := by decide +kernel
theorem d_WP_aim_17 : decode b_WP_aim 17 = .ok (.getfield 19, 3) := by decide +kernel
theorem d_WP_aim_20 : decode b_WP_aim 20 = .ok (.iload_n 1, 1) := by decide +kernel
theorem d_WP_aim_21 : decode b_WP_aim 21 = .ok (.iload_n 2, 1) := by decide +kernel
theorem d_WP_aim_22 : decode b_WP_aim 22 = .ok (.iload_n 3, 1) := by decide +kernel
theorem d_WP_aim_23 : decode b_WP_aim 23 = .ok (.invokevirtual 130, 3) := by decide +kernel
theorem d_WP_aim_26 : decode b_WP_aim 26 = .ok (.istore 4, 2) := by decide +kernel
theorem d_WP_aim_28 : decode b_WP_aim 28 = .ok (.iload 4, 2) := by decide +kernel
theorem d_WP_aim_30 : decode b_WP_aim 30 = .ok (.bipush (-3), 2) := by decide +kernel
theorem d_WP_aim_32 : decode b_WP_aim 32 = .ok (.if_icmp .eq 10, 3) := by decide +kernel
theorem d_WP_aim_35 : decode b_WP_aim 35 = .ok (.aload_n 0, 1) := by decide +kernel
theorem d_WP_aim_36 : decode b_WP_aim 36 = .ok (.getfield 33, 3) := by decide +kernel
theorem d_WP_aim_39 : decode b_WP_aim 39 = .ok (.invokevirtual 150, 3) := by decide +kernel
theorem d_WP_aim_42 : decode b_WP_aim 42 = .ok (.iload 4, 2) := by decide +kernel
theorem d_WP_aim_44 : decode b_WP_aim 44 = .ok (.ireturn, 1) := by decide +kernel
set_option maxRecDepth 100000 in
set_option maxHeartbeats 4000000 in
theorem S_WP_aim_0 {G : Gc} {M : Mc} {Q : State → Prop} {K : Option Value → Hp → Prop} (hG : gok G) (hM : mok G M r_WP_aim Q K) (v0 : Nat) (v1 : Int32) (v2 : Int32) (v3 : Int32) (h : Hp) (F : kT h v0 = 1 ∧ kR h v0 0 = some (rf h v0 0) ∧ (kT h (rf h v0 0) = 2 ∧ sem G r_Wo_isCondition [.ref (rf h v0 0), .int v1, .int v2, .int v3] h (fun u2 h1 => ∃ x3 : Int32, u2 = some (.int x3) ∧ ((x3 = 0 → K (some (.int (-2))) h1) ∧ (¬ x3 = 0 → (kT h1 v0 = 1 ∧ kR h1 v0 1 = some (rf h1 v0 1) ∧ (kT h1 (rf h1 v0 1) = 5 ∧ sem G r_Cl_add [.ref (rf h1 v0 1), .int v1, .int v2, .int v3] h1 (fun u5 h4 => ∃ x6 : Int32, u5 = some (.int x6) ∧ ((x6 = (-3) → K (some (.int x6)) h4) ∧ (¬ x6 = (-3) → (kT h4 v0 = 1 ∧ kR h4 v0 3 = some (rf h4 v0 3) ∧ (kT h4 (rf h4 v0 3) = 7 ∧ sem G r_Ch_inAim [.ref (rf h4 v0 3)] h4 (fun u8 h7 => u8 = none ∧ K (some (.int x6)) h7))))))))))))) : X G M Q 0 [(0, .ref v0), (1, .int v1), (2, .int v2), (3, .int v3)] [] h := by
  refine x_aload_n hM d_WP_aim_0 rfl 0 rfl ?_
  obtain ⟨c18, F⟩ := F
  obtain ⟨c19, F⟩ := F
  refine x_getr hG hM ck_WP 0 (Nat.le_of_ble_eq_true rfl) rfl rfl w_402 rfl d_WP_aim_1 c18 c19 ?_
  refine x_iload_n hM d_WP_aim_4 rfl 1 rfl ?_
  refine x_iload_n hM d_WP_aim_5 rfl 2 rfl ?_
  refine x_iload_n hM d_WP_aim_6 rfl 3 rfl ?_
  obtain ⟨c17, F⟩ := F
  refine x_callV hG hM (r' := r_Wo_isCondition) (ci := 1) [.int v1, .int v2, .int v3] rfl rfl (Nat.le_of_ble_eq_true rfl) yk_Wo_isCondition ⟨Nat.le_of_ble_eq_true rfl, Nat.le_of_ble_eq_true rfl⟩ w_500 w_501 w_502 rfl rfl (Nat.le_of_ble_eq_true rfl) d_WP_aim_7 c17 (sem_mono F ?_)
  intro u2 h1 F
  obtain ⟨x3, rfl, F⟩ := F
  refine x_if_ne (tgt := 16) hM d_WP_aim_10 (by decide) (fun q16 => ?_) (fun q16 => ?_)
  · replace F := F.2 q16
    refine x_aload_n hM d_WP_aim_16 rfl 0 rfl ?_
    obtain ⟨c14, F⟩ := F
    obtain ⟨c15, F⟩ := F
    refine x_getr hG hM ck_WP 1 (Nat.le_of_ble_eq_true rfl) rfl rfl w_403 rfl d_WP_aim_17 c14 c15 ?_
    refine x_iload_n hM d_WP_aim_20 rfl 1 rfl ?_
    refine x_iload_n hM d_WP_aim_21 rfl 2 rfl ?_
    refine x_iload_n hM d_WP_aim_22 rfl 3 rfl ?_
    obtain ⟨c13, F⟩ := F
    refine x_callV hG hM (r' := r_Cl_add) (ci := 4) [.int v1, .int v2, .int v3] rfl rfl (Nat.le_of_ble_eq_true rfl) yk_Cl_add ⟨Nat.le_of_ble_eq_true rfl, Nat.le_of_ble_eq_true rfl⟩ w_508 w_509 w_510 rfl rfl (Nat.le_of_ble_eq_true rfl) d_WP_aim_23 c13 (sem_mono F ?_)
    intro u5 h4 F
    obtain ⟨x6, rfl, F⟩ := F
    refine x_istore (lv2 := [(4, .int x6), (0, .ref v0), (1, .int v1), (2, .int v2), (3, .int v3)]) hM d_WP_aim_26 (Nat.le_of_ble_eq_true rfl) rfl ?_
    refine x_iload hM d_WP_aim_28 0 rfl ?_
    refine x_bipush (v := (-3)) hM d_WP_aim_30 (by decide) ?_
    refine x_icmp_eq (tgt := 42) hM d_WP_aim_32 (by decide) (fun q12 => ?_) (fun q12 => ?_)
    · replace F := F.1 q12
      refine x_iload hM d_WP_aim_42 0 rfl ?_
      exact x_ireturn hM d_WP_aim_44 rfl F
    · replace F := F.2 q12
      refine x_aload_n hM d_WP_aim_35 rfl 1 rfl ?_
      obtain ⟨c10, F⟩ := F
      obtain ⟨c11, F⟩ := F
      refine x_getr hG hM ck_WP 3 (Nat.le_of_ble_eq_true rfl) rfl rfl w_405 rfl d_WP_aim_36 c10 c11 ?_
      obtain ⟨c9, F⟩ := F
      refine x_callV hG hM (r' := r_Ch_inAim) (ci := 6) [] rfl rfl (Nat.le_of_ble_eq_true rfl) yk_Ch_inAim ⟨Nat.le_of_ble_eq_true rfl, Nat.le_of_ble_eq_true rfl⟩ w_529 w_530 w_531 rfl rfl (Nat.le_of_ble_eq_true rfl) d_WP_aim_39 c9 (sem_mono F ?_)
      intro u8 h7 F
      obtain ⟨rfl, F⟩ := F
      refine x_iload hM d_WP_aim_42 0 rfl ?_
      exact x_ireturn hM d_WP_aim_44 rfl F
  · replace F := F.1 q16
    refine x_bipush (v := (-2)) hM d_WP_aim_13 (by decide) ?_
    exact x_ireturn hM d_WP_aim_15 rfl F
theorem d_WP_aimless_0 : decode b_WP_aimless 0 = .ok (.aload_n 0, 1) := by decide +kernel
theorem d_WP_aimless_1 : decode b_WP_aimless 1 = .ok (.getfield 19, 3) := by decide +kernel
theorem d_WP_aimless_4 : decode b_WP_aimless 4 = .ok (.getfield 82, 3) := by decide +kernel
theorem d_WP_aimless_7 : decode b_WP_aimless 7 = .ok (.istore_n 1, 1) := by decide +kernel
theorem d_WP_aimless_8 : decode b_WP_aimless 8 = .ok (.aload_n 0, 1) := by decide +kernel
theorem d_WP_aimless_9 : decode b_WP_aimless 9 = .ok (.getfield 19, 3) := by decide +kernel
theorem d_WP_aimless_12 : decode b_WP_aimless 12 = .ok (.iconst 0, 1) := by decide +kernel
theorem d_WP_aimless_13 : decode b_WP_aimless 13 = .ok (.putfield 82, 3) := by decide +kernel
theorem d_WP_aimless_16 : decode b_WP_aimless 16 = .ok (.iload_n 1, 1) := by decide +kernel
theorem d_WP_aimless_17 : decode b_WP_aimless 17 = .ok (.ifCond .le 10, 3) := by decide +kernel
theorem d_WP_aimless_20 : decode b_WP_aimless 20 = .ok (.aload_n 0, 1) := by decide +kernel
theorem d_WP_aimless_21 : decode b_WP_aimless 21 = .ok (.getfield 33, 3) := by decide +kernel
theorem d_WP_aimless_24 : decode b_WP_aimless 24 = .ok (.invokevirtual 150, 3) := by decide +kernel
theorem d_WP_aimless_27 : decode b_WP_aimless 27 = .ok (.iload_n 1, 1) := by decide +kernel
theorem d_WP_aimless_28 : decode b_WP_aimless 28 = .ok (.ireturn, 1) := by decide +kernel
set_option maxRecDepth 100000 in
set_option maxHeartbeats 4000000 in
theorem S_WP_aimless_0 {G : Gc} {M : Mc} {Q : State → Prop} {K : Option Value → Hp → Prop} (hG : gok G) (hM : mok G M r_WP_aimless Q K) (v0 : Nat) (h : Hp) (F : kT h v0 = 1 ∧ kR h v0 1 = some (rf h v0 1) ∧ (kT h (rf h v0 1) = 5 ∧ (kT h v0 = 1 ∧ kR h v0 1 = some (rf h v0 1) ∧ (kT h (rf h v0 1) = 5 ∧ (∀ h1 : Hp, h1 = wI h (rf h v0 1) 0 0 → (((kI h (rf h v0 1) 0) ≤ 0 → K (some (.int (kI h (rf h v0 1) 0))) h1) ∧ (¬ (kI h (rf h v0 1) 0) ≤ 0 → (kT h1 v0 = 1 ∧ kR h1 v0 3 = some (rf h1 v0 3) ∧ (kT h1 (rf h1 v0 3) = 7 ∧ sem G r_Ch_inAim [.ref (rf h1 v0 3)] h1 (fun u3 h2 => u3 = none ∧ K (some (.int (kI h (rf h v0 1) 0))) h2)))))))))) : X G M Q 0 [(0, .ref v0)] [] h := by
  refine x_aload_n hM d_WP_aimless_0 rfl 0 rfl ?_
  obtain ⟨c12, F⟩ := F
  obtain ⟨c13, F⟩ := F
  refine x_getr hG hM ck_WP 1 (Nat.le_of_ble_eq_true rfl) rfl rfl w_403 rfl d_WP_aimless_1 c12 c13 ?_
  obtain ⟨c11, F⟩ := F
  refine x_geti hG hM ck_Cl 0 (Nat.le_of_ble_eq_true rfl) rfl rfl w_45 rfl d_WP_aimless_4 c11 ?_
  refine x_istore_n (lv2 := [(1, .int (kI h (rf h v0 1) 0)), (0, .ref v0)]) hM d_WP_aimless_7 rfl (Nat.le_of_ble_eq_true rfl) rfl ?_
  refine x_aload_n hM d_WP_aimless_8 rfl 1 rfl ?_
  obtain ⟨c9, F⟩ := F
  obtain ⟨c10, F⟩ := F
  refine x_getr hG hM ck_WP 1 (Nat.le_of_ble_eq_true rfl) rfl rfl w_403 rfl d_WP_aimless_9 c9 c10 ?_
  refine x_iconst (v := 0) hM d_WP_aimless_12 (by decide) ?_
  obtain ⟨c8, F⟩ := F
  obtain ⟨h1, eh1⟩ : ∃ z : Hp, z = wI h (rf h v0 1) 0 0 := ⟨_, rfl⟩
  replace F := F h1 eh1
  refine x_puti hG hM ck_Cl 0 (Nat.le_of_ble_eq_true rfl) rfl rfl w_45 rfl d_WP_aimless_13 (Or.inl rfl) c8 ?_
  rw [← eh1]
  clear eh1
  refine x_iload_n hM d_WP_aimless_16 rfl 0 rfl ?_
  refine x_if_le (tgt := 27) hM d_WP_aimless_17 (by decide) (fun q7 => ?_) (fun q7 => ?_)
  · replace F := F.1 q7
    refine x_iload_n hM d_WP_aimless_27 rfl 0 rfl ?_
    exact x_ireturn hM d_WP_aimless_28 rfl F
  · replace F := F.2 q7
    refine x_aload_n hM d_WP_aimless_20 rfl 1 rfl ?_
    obtain ⟨c5, F⟩ := F
    obtain ⟨c6, F⟩ := F
    refine x_getr hG hM ck_WP 3 (Nat.le_of_ble_eq_true rfl) rfl rfl w_405 rfl d_WP_aimless_21 c5 c6 ?_
    obtain ⟨c4, F⟩ := F
    refine x_callV hG hM (r' := r_Ch_inAim) (ci := 6) [] rfl rfl (Nat.le_of_ble_eq_true rfl) yk_Ch_inAim ⟨Nat.le_of_ble_eq_true rfl, Nat.le_of_ble_eq_true rfl⟩ w_529 w_530 w_531 rfl rfl (Nat.le_of_ble_eq_true rfl) d_WP_aimless_24 c4 (sem_mono F ?_)
    intro u3 h2 F
    obtain ⟨rfl, F⟩ := F
    refine x_iload_n hM d_WP_aimless_27 rfl 0 rfl ?_
    exact x_ireturn hM d_WP_aimless_28 rfl F
theorem d_WP_unact_0 : decode b_WP_unact 0 = .ok (.aload_n 0, 1) := by decide +kernel
theorem d_WP_unact_1 : decode b_WP_unact 1 = .ok (.getfield 12, 3) := by decide +kernel
theorem d_WP_unact_4 : decode b_WP_unact 4 = .ok (.getfield 89, 3) := by decide +kernel
theorem d_WP_unact_7 : decode b_WP_unact 7 = .ok (.ifCond .ne 5, 3) := by decide +kernel
theorem d_WP_unact_10 : decode b_WP_unact 10 = .ok (.iconst (-1), 1) := by decide +kernel
theorem d_WP_unact_11 : decode b_WP_unact 11 = .ok (.ireturn, 1) := by decide +kernel
theorem d_WP_unact_12 : decode b_WP_unact 12 = .ok (.aload_n 0, 1) := by decide +kernel
theorem d_WP_unact_13 : decode b_WP_unact 13 = .ok (.getfield 12, 3) := by decide +kernel
theorem d_WP_unact_16 : decode b_WP_unact 16 = .ok (.invokevirtual 153, 3) := by decide +kernel
theorem d_WP_unact_19 : decode b_WP_unact 19 = .ok (.aload_n 0, 1) := by decide +kernel
theorem d_WP_unact_20 : decode b_WP_unact 20 = .ok (.getfield 33, 3) := by decide +kernel
theorem d_WP_unact_23 : decode b_WP_unact 23 = .ok (.invokevirtual 86, 3) := by decide +kernel
theorem d_WP_unact_26 : decode b_WP_unact 26 = .ok (.aload_n 0, 1) := by decide +kernel
theorem d_WP_unact_27 : decode b_WP_unact 27 = .ok (.getfield 12, 3) := by decide +kernel
theorem d_WP_unact_30 : decode b_WP_unact 30 = .ok (.getfield 89, 3) := by decide +kernel
theorem d_WP_unact_33 : decode b_WP_unact 33 = .ok (.ireturn, 1) := by decide +kernel
set_option maxRecDepth 100000 in
set_option maxHeartbeats 4000000 in
theorem S_WP_unact_0 {G : Gc} {M : Mc} {Q : State → Prop} {K : Option Value → Hp → Prop} (hG : gok G) (hM : mok G M r_WP_unact Q K) (v0 : Nat) (h : Hp) (F : kT h v0 = 1 ∧ kR h v0 0 = some (rf h v0 0) ∧ (kT h (rf h v0 0) = 2 ∧ (((kI h (rf h v0 0) 2) = 0 → K (some (.int (-1))) h) ∧ (¬ (kI h (rf h v0 0) 2) = 0 → (kT h v0 = 1 ∧ kR h v0 0 = some (rf h v0 0) ∧ (kT h (rf h v0 0) = 2 ∧ sem G r_Wo_dropAct [.ref (rf h v0 0)] h (fun u2 h1 => u2 = none ∧ (kT h1 v0 = 1 ∧ kR h1 v0 3 = some (rf h1 v0 3) ∧ (kT h1 (rf h1 v0 3) = 7 ∧ sem G r_Ch_inWorld [.ref (rf h1 v0 3)] h1 (fun u4 h3 => u4 = none ∧ (kT h3 v0 = 1 ∧ kR h3 v0 0 = some (rf h3 v0 0) ∧ (kT h3 (rf h3 v0 0) = 2 ∧ K (some (.int (kI h3 (rf h3 v0 0) 2))) h3)))))))))))) : X G M Q 0 [(0, .ref v0)] [] h := by
  refine x_aload_n hM d_WP_unact_0 rfl 0 rfl ?_
  obtain ⟨c16, F⟩ := F
  obtain ⟨c17, F⟩ := F
  refine x_getr hG hM ck_WP 0 (Nat.le_of_ble_eq_true rfl) rfl rfl w_402 rfl d_WP_unact_1 c16 c17 ?_
  obtain ⟨c15, F⟩ := F
  refine x_geti hG hM ck_Wo 2 (Nat.le_of_ble_eq_true rfl) rfl rfl w_136 rfl d_WP_unact_4 c15 ?_
  refine x_if_ne (tgt := 12) hM d_WP_unact_7 (by decide) (fun q14 => ?_) (fun q14 => ?_)
  · replace F := F.2 q14
    refine x_aload_n hM d_WP_unact_12 rfl 0 rfl ?_
    obtain ⟨c12, F⟩ := F
    obtain ⟨c13, F⟩ := F
    refine x_getr hG hM ck_WP 0 (Nat.le_of_ble_eq_true rfl) rfl rfl w_402 rfl d_WP_unact_13 c12 c13 ?_
    obtain ⟨c11, F⟩ := F
    refine x_callV hG hM (r' := r_Wo_dropAct) (ci := 1) [] rfl rfl (Nat.le_of_ble_eq_true rfl) yk_Wo_dropAct ⟨Nat.le_of_ble_eq_true rfl, Nat.le_of_ble_eq_true rfl⟩ w_541 w_542 w_543 rfl rfl (Nat.le_of_ble_eq_true rfl) d_WP_unact_16 c11 (sem_mono F ?_)
    intro u2 h1 F
    obtain ⟨rfl, F⟩ := F
    refine x_aload_n hM d_WP_unact_19 rfl 0 rfl ?_
    obtain ⟨c9, F⟩ := F
    obtain ⟨c10, F⟩ := F
    refine x_getr hG hM ck_WP 3 (Nat.le_of_ble_eq_true rfl) rfl rfl w_405 rfl d_WP_unact_20 c9 c10 ?_
    obtain ⟨c8, F⟩ := F
    refine x_callV hG hM (r' := r_Ch_inWorld) (ci := 6) [] rfl rfl (Nat.le_of_ble_eq_true rfl) yk_Ch_inWorld ⟨Nat.le_of_ble_eq_true rfl, Nat.le_of_ble_eq_true rfl⟩ w_444 w_445 w_446 rfl rfl (Nat.le_of_ble_eq_true rfl) d_WP_unact_23 c8 (sem_mono F ?_)
    intro u4 h3 F
    obtain ⟨rfl, F⟩ := F
    refine x_aload_n hM d_WP_unact_26 rfl 0 rfl ?_
    obtain ⟨c6, F⟩ := F
    obtain ⟨c7, F⟩ := F
    refine x_getr hG hM ck_WP 0 (Nat.le_of_ble_eq_true rfl) rfl rfl w_402 rfl d_WP_unact_27 c6 c7 ?_
    obtain ⟨c5, F⟩ := F
    refine x_geti hG hM ck_Wo 2 (Nat.le_of_ble_eq_true rfl) rfl rfl w_136 rfl d_WP_unact_30 c5 ?_
    exact x_ireturn hM d_WP_unact_33 rfl F
  · replace F := F.1 q14
    refine x_iconst (v := (-1)) hM d_WP_unact_10 (by decide) ?_
    exact x_ireturn hM d_WP_unact_11 rfl F
theorem d_WP_leads_0 : decode b_WP_leads 0 = .ok (.aload_n 0, 1) := by decide +kernel
theorem d_WP_leads_1 : decode b_WP_leads 1 = .ok (.getfield 12, 3) := by decide +kernel
theorem d_WP_leads_4 : decode b_WP_leads 4 = .ok (.iload_n 1, 1) := by decide +kernel
theorem d_WP_leads_5 : decode b_WP_leads 5 = .ok (.invokevirtual 96, 3) := by decide +kernel
theorem d_WP_leads_8 : decode b_WP_leads 8 = .ok (.ifCond .eq 15, 3) := by decide +kernel
theorem d_WP_leads_11 : decode b_WP_leads 11 = .ok (.aload_n 0, 1) := by decide +kernel
theorem d_WP_leads_12 : decode b_WP_leads 12 = .ok (.getfield 12, 3) := by decide +kernel
theorem d_WP_leads_15 : decode b_WP_leads 15 = .ok (.iload_n 2, 1) := by decide +kernel
theorem d_WP_leads_16 : decode b_WP_leads 16 = .ok (.iload_n 3, 1) := by decide +kernel
theorem d_WP_leads_17 : decode b_WP_leads 17 = .ok (.invokevirtual 134, 3) := by decide +kernel
theorem d_WP_leads_20 : decode b_WP_leads 20 = .ok (.ifCond .ne 6, 3) := by decide +kernel
theorem d_WP_leads_23 : decode b_WP_leads 23 = .ok (.bipush (-2), 2) := by decide +kernel
theorem d_WP_leads_25 : decode b_WP_leads 25 = .ok (.ireturn, 1) := by decide +kernel
theorem d_WP_leads_26 : decode b_WP_leads 26 = .ok (.aload_n 0, 1) := by decide +kernel
theorem d_WP_leads_27 : decode b_WP_leads 27 = .ok (.getfield 12, 3) := by decide +kernel
theorem d_WP_leads_30 : decode b_WP_leads 30 = .ok (.getfield 110, 3) := by decide +kernel
theorem d_WP_leads_33 : decode b_WP_leads 33 = .ok (.iload_n 2, 1) := by decide +kernel
theorem d_WP_leads_34 : decode b_WP_leads 34 = .ok (.aaload, 1) := by decide +kernel
theorem d_WP_leads_35 : decode b_WP_leads 35 = .ok (.astore 4, 2) := by decide +kernel
theorem d_WP_leads_37 : decode b_WP_leads 37 = .ok (.aload_n 0, 1) := by decide +kernel
theorem d_WP_leads_38 : decode b_WP_leads 38 = .ok (.getfield 12, 3) := by decide +kernel
theorem d_WP_leads_41 : decode b_WP_leads 41 = .ok (.iload_n 1, 1) := by decide +kernel
theorem d_WP_leads_42 : decode b_WP_leads 42 = .ok (.invokevirtual 156, 3) := by decide +kernel
theorem d_WP_leads_45 : decode b_WP_leads 45 = .ok (.istore 5, 2) := by decide +kernel
theorem d_WP_leads_47 : decode b_WP_leads 47 = .ok (.aload 4, 2) := by decide +kernel
theorem d_WP_leads_49 : decode b_WP_leads 49 = .ok (.getfield 127, 3) := by decide +kernel
theorem d_WP_leads_52 : decode b_WP_leads 52 = .ok (.iload 5, 2) := by decide +kernel
theorem d_WP_leads_54 : decode b_WP_leads 54 = .ok (.invokevirtual 159, 3) := by decide +kernel
theorem d_WP_leads_57 : decode b_WP_leads 57 = .ok (.ifCond .eq 26, 3) := by decide +kernel
theorem d_WP_leads_60 : decode b_WP_leads 60 = .ok (.aload_n 0, 1) := by decide +kernel
theorem d_WP_leads_61 : decode b_WP_leads 61 = .ok (.getfield 12, 3) := by decide +kernel
theorem d_WP_leads_64 : decode b_WP_leads 64 = .ok (.aload 4, 2) := by decide +kernel
theorem d_WP_leads_66 : decode b_WP_leads 66 = .ok (.getfield 141, 3) := by decide +kernel
theorem d_WP_leads_69 : decode b_WP_leads 69 = .ok (.iload_n 3, 1) := by decide +kernel
theorem d_WP_leads_70 : decode b_WP_leads 70 = .ok (.aaload, 1) := by decide +kernel
theorem d_WP_leads_71 : decode b_WP_leads 71 = .ok (.getfield 145, 3) := by decide +kernel
theorem d_WP_leads_74 : decode b_WP_leads 74 = .ok (.iload_n 1, 1) := by decide +kernel
theorem d_WP_leads_75 : decode b_WP_leads 75 = .ok (.iload 5, 2) := by decide +kernel
theorem d_WP_leads_77 : decode b_WP_leads 77 = .ok (.invokevirtual 162, 3) := by decide +kernel
theorem d_WP_leads_80 : decode b_WP_leads 80 = .ok (.goto 4, 3) := by decide +kernel
theorem d_WP_leads_83 : decode b_WP_leads 83 = .ok (.iconst (-1), 1) := by decide +kernel
theorem d_WP_leads_84 : decode b_WP_leads 84 = .ok (.ireturn, 1) := by decide +kernel
set_option maxRecDepth 100000 in
set_option maxHeartbeats 4000000 in
theorem S_WP_leads_0 {G : Gc} {M : Mc} {Q : State → Prop} {K : Option Value → Hp → Prop} (hG : gok G) (hM : mok G M r_WP_leads Q K) (v0 : Nat) (v1 : Int32) (v2 : Int32) (v3 : Int32) (h : Hp) (F : kT h v0 = 1 ∧ kR h v0 0 = some (rf h v0 0) ∧ (kT h (rf h v0 0) = 2 ∧ sem G r_Wo_isState [.ref (rf h v0 0), .int v1] h (fun u2 h1 => ∃ x3 : Int32, u2 = some (.int x3) ∧ ((x3 = 0 → K (some (.int (-2))) h1) ∧ (¬ x3 = 0 → (kT h1 v0 = 1 ∧ kR h1 v0 0 = some (rf h1 v0 0) ∧ (kT h1 (rf h1 v0 0) = 2 ∧ sem G r_Wo_isOutcome [.ref (rf h1 v0 0), .int v2, .int v3] h1 (fun u5 h4 => ∃ x6 : Int32, u5 = some (.int x6) ∧ ((x6 = 0 → K (some (.int (-2))) h4) ∧ (¬ x6 = 0 → (kT h4 v0 = 1 ∧ kR h4 v0 0 = some (rf h4 v0 0) ∧ (kT h4 (rf h4 v0 0) = 2 ∧ kR h4 (rf h4 v0 0) 5 = some (rf h4 (rf h4 v0 0) 5) ∧ (kT h4 (rf h4 (rf h4 v0 0) 5) = 53 ∧ vp_in v2 (kN h4 (rf h4 (rf h4 v0 0) 5)) ∧ kR h4 (rf h4 (rf h4 v0 0) 5) (Int32.toNatClampNeg v2) = some (rf h4 (rf h4 (rf h4 v0 0) 5) (Int32.toNatClampNeg v2)) ∧ (kT h4 v0 = 1 ∧ kR h4 v0 0 = some (rf h4 v0 0) ∧ (kT h4 (rf h4 v0 0) = 2 ∧ sem G r_Wo_pack [.ref (rf h4 v0 0), .int v1] h4 (fun u8 h7 => ∃ x9 : Int32, u8 = some (.int x9) ∧ (kT h7 (rf h4 (rf h4 (rf h4 v0 0) 5) (Int32.toNatClampNeg v2)) = 3 ∧ kR h7 (rf h4 (rf h4 (rf h4 v0 0) 5) (Int32.toNatClampNeg v2)) 0 = some (rf h7 (rf h4 (rf h4 (rf h4 v0 0) 5) (Int32.toNatClampNeg v2)) 0) ∧ (kT h7 (rf h7 (rf h4 (rf h4 (rf h4 v0 0) 5) (Int32.toNatClampNeg v2)) 0) = 5 ∧ sem G r_Cl_hold [.ref (rf h7 (rf h4 (rf h4 (rf h4 v0 0) 5) (Int32.toNatClampNeg v2)) 0), .int x9] h7 (fun u11 h10 => ∃ x12 : Int32, u11 = some (.int x12) ∧ ((x12 = 0 → K (some (.int (-1))) h10) ∧ (¬ x12 = 0 → (kT h10 v0 = 1 ∧ kR h10 v0 0 = some (rf h10 v0 0) ∧ (kT h10 (rf h4 (rf h4 (rf h4 v0 0) 5) (Int32.toNatClampNeg v2)) = 3 ∧ kR h10 (rf h4 (rf h4 (rf h4 v0 0) 5) (Int32.toNatClampNeg v2)) 1 = some (rf h10 (rf h4 (rf h4 (rf h4 v0 0) 5) (Int32.toNatClampNeg v2)) 1) ∧ (kT h10 (rf h10 (rf h4 (rf h4 (rf h4 v0 0) 5) (Int32.toNatClampNeg v2)) 1) = 54 ∧ vp_in v3 (kN h10 (rf h10 (rf h4 (rf h4 (rf h4 v0 0) 5) (Int32.toNatClampNeg v2)) 1)) ∧ kR h10 (rf h10 (rf h4 (rf h4 (rf h4 v0 0) 5) (Int32.toNatClampNeg v2)) 1) (Int32.toNatClampNeg v3) = some (rf h10 (rf h10 (rf h4 (rf h4 (rf h4 v0 0) 5) (Int32.toNatClampNeg v2)) 1) (Int32.toNatClampNeg v3)) ∧ (kT h10 (rf h10 (rf h10 (rf h4 (rf h4 (rf h4 v0 0) 5) (Int32.toNatClampNeg v2)) 1) (Int32.toNatClampNeg v3)) = 4 ∧ kR h10 (rf h10 (rf h10 (rf h4 (rf h4 (rf h4 v0 0) 5) (Int32.toNatClampNeg v2)) 1) (Int32.toNatClampNeg v3)) 0 = some (rf h10 (rf h10 (rf h10 (rf h4 (rf h4 (rf h4 v0 0) 5) (Int32.toNatClampNeg v2)) 1) (Int32.toNatClampNeg v3)) 0) ∧ (kT h10 (rf h10 v0 0) = 2 ∧ sem G r_Wo_after [.ref (rf h10 v0 0), .ref (rf h10 (rf h10 (rf h10 (rf h4 (rf h4 (rf h4 v0 0) 5) (Int32.toNatClampNeg v2)) 1) (Int32.toNatClampNeg v3)) 0), .int v1, .int x9] h10 (fun u14 h13 => ∃ x15 : Int32, u14 = some (.int x15) ∧ K (some (.int x15)) h13))))))))))))))))))))))))))) : X G M Q 0 [(0, .ref v0), (1, .int v1), (2, .int v2), (3, .int v3)] [] h := by
  refine x_aload_n hM d_WP_leads_0 rfl 0 rfl ?_
  obtain ⟨c46, F⟩ := F
  obtain ⟨c47, F⟩ := F
  refine x_getr hG hM ck_WP 0 (Nat.le_of_ble_eq_true rfl) rfl rfl w_402 rfl d_WP_leads_1 c46 c47 ?_
  refine x_iload_n hM d_WP_leads_4 rfl 1 rfl ?_
  obtain ⟨c45, F⟩ := F
  refine x_callV hG hM (r' := r_Wo_isState) (ci := 1) [.int v1] rfl rfl (Nat.le_of_ble_eq_true rfl) yk_Wo_isState ⟨Nat.le_of_ble_eq_true rfl, Nat.le_of_ble_eq_true rfl⟩ w_460 w_461 w_462 rfl rfl (Nat.le_of_ble_eq_true rfl) d_WP_leads_5 c45 (sem_mono F ?_)
  intro u2 h1 F
  obtain ⟨x3, rfl, F⟩ := F
  refine x_if_eq (tgt := 23) hM d_WP_leads_8 (by decide) (fun q44 => ?_) (fun q44 => ?_)
  · replace F := F.1 q44
    refine x_bipush (v := (-2)) hM d_WP_leads_23 (by decide) ?_
    exact x_ireturn hM d_WP_leads_25 rfl F
  · replace F := F.2 q44
    refine x_aload_n hM d_WP_leads_11 rfl 0 rfl ?_
    obtain ⟨c42, F⟩ := F
    obtain ⟨c43, F⟩ := F
    refine x_getr hG hM ck_WP 0 (Nat.le_of_ble_eq_true rfl) rfl rfl w_402 rfl d_WP_leads_12 c42 c43 ?_
    refine x_iload_n hM d_WP_leads_15 rfl 2 rfl ?_
    refine x_iload_n hM d_WP_leads_16 rfl 3 rfl ?_
    obtain ⟨c41, F⟩ := F
    refine x_callV hG hM (r' := r_Wo_isOutcome) (ci := 1) [.int v2, .int v3] rfl rfl (Nat.le_of_ble_eq_true rfl) yk_Wo_isOutcome ⟨Nat.le_of_ble_eq_true rfl, Nat.le_of_ble_eq_true rfl⟩ w_516 w_517 w_518 rfl rfl (Nat.le_of_ble_eq_true rfl) d_WP_leads_17 c41 (sem_mono F ?_)
    intro u5 h4 F
    obtain ⟨x6, rfl, F⟩ := F
    refine x_if_ne (tgt := 26) hM d_WP_leads_20 (by decide) (fun q40 => ?_) (fun q40 => ?_)
    · replace F := F.2 q40
      refine x_aload_n hM d_WP_leads_26 rfl 0 rfl ?_
      obtain ⟨c38, F⟩ := F
      obtain ⟨c39, F⟩ := F
      refine x_getr hG hM ck_WP 0 (Nat.le_of_ble_eq_true rfl) rfl rfl w_402 rfl d_WP_leads_27 c38 c39 ?_
      obtain ⟨c36, F⟩ := F
      obtain ⟨c37, F⟩ := F
      refine x_getr hG hM ck_Wo 5 (Nat.le_of_ble_eq_true rfl) rfl rfl w_146 rfl d_WP_leads_30 c36 c37 ?_
      refine x_iload_n hM d_WP_leads_33 rfl 2 rfl ?_
      obtain ⟨c33, F⟩ := F
      obtain ⟨c34, F⟩ := F
      obtain ⟨c35, F⟩ := F
      refine x_aaload hG hM 53 rfl (Nat.le_of_ble_eq_true rfl) d_WP_leads_34 c33 c34 c35 ?_
      refine x_astore (lv2 := [(4, .ref (rf h4 (rf h4 (rf h4 v0 0) 5) (Int32.toNatClampNeg v2))), (0, .ref v0), (1, .int v1), (2, .int v2), (3, .int v3)]) hM d_WP_leads_35 (Nat.le_of_ble_eq_true rfl) rfl ?_
      refine x_aload_n hM d_WP_leads_37 rfl 1 rfl ?_
      obtain ⟨c31, F⟩ := F
      obtain ⟨c32, F⟩ := F
      refine x_getr hG hM ck_WP 0 (Nat.le_of_ble_eq_true rfl) rfl rfl w_402 rfl d_WP_leads_38 c31 c32 ?_
      refine x_iload_n hM d_WP_leads_41 rfl 2 rfl ?_
      obtain ⟨c30, F⟩ := F
      refine x_callV hG hM (r' := r_Wo_pack) (ci := 1) [.int v1] rfl rfl (Nat.le_of_ble_eq_true rfl) yk_Wo_pack ⟨Nat.le_of_ble_eq_true rfl, Nat.le_of_ble_eq_true rfl⟩ w_549 w_550 w_551 rfl rfl (Nat.le_of_ble_eq_true rfl) d_WP_leads_42 c30 (sem_mono F ?_)
      intro u8 h7 F
      obtain ⟨x9, rfl, F⟩ := F
      refine x_istore (lv2 := [(5, .int x9), (4, .ref (rf h4 (rf h4 (rf h4 v0 0) 5) (Int32.toNatClampNeg v2))), (0, .ref v0), (1, .int v1), (2, .int v2), (3, .int v3)]) hM d_WP_leads_45 (Nat.le_of_ble_eq_true rfl) rfl ?_
      refine x_aload hM d_WP_leads_47 1 rfl ?_
      obtain ⟨c28, F⟩ := F
      obtain ⟨c29, F⟩ := F
      refine x_getr hG hM ck_Ac 0 (Nat.le_of_ble_eq_true rfl) rfl rfl w_95 rfl d_WP_leads_49 c28 c29 ?_
      refine x_iload hM d_WP_leads_52 0 rfl ?_
      obtain ⟨c27, F⟩ := F
      refine x_callV hG hM (r' := r_Cl_hold) (ci := 4) [.int x9] rfl rfl (Nat.le_of_ble_eq_true rfl) yk_Cl_hold ⟨Nat.le_of_ble_eq_true rfl, Nat.le_of_ble_eq_true rfl⟩ w_553 w_554 w_555 rfl rfl (Nat.le_of_ble_eq_true rfl) d_WP_leads_54 c27 (sem_mono F ?_)
      intro u11 h10 F
      obtain ⟨x12, rfl, F⟩ := F
      refine x_if_eq (tgt := 83) hM d_WP_leads_57 (by decide) (fun q26 => ?_) (fun q26 => ?_)
      · replace F := F.1 q26
        refine x_iconst (v := (-1)) hM d_WP_leads_83 (by decide) ?_
        exact x_ireturn hM d_WP_leads_84 rfl F
      · replace F := F.2 q26
        refine x_aload_n hM d_WP_leads_60 rfl 2 rfl ?_
        obtain ⟨c24, F⟩ := F
        obtain ⟨c25, F⟩ := F
        refine x_getr hG hM ck_WP 0 (Nat.le_of_ble_eq_true rfl) rfl rfl w_402 rfl d_WP_leads_61 c24 c25 ?_
        refine x_aload hM d_WP_leads_64 1 rfl ?_
        obtain ⟨c22, F⟩ := F
        obtain ⟨c23, F⟩ := F
        refine x_getr hG hM ck_Ac 1 (Nat.le_of_ble_eq_true rfl) rfl rfl w_101 rfl d_WP_leads_66 c22 c23 ?_
        refine x_iload_n hM d_WP_leads_69 rfl 5 rfl ?_
        obtain ⟨c19, F⟩ := F
        obtain ⟨c20, F⟩ := F
        obtain ⟨c21, F⟩ := F
        refine x_aaload hG hM 54 rfl (Nat.le_of_ble_eq_true rfl) d_WP_leads_70 c19 c20 c21 ?_
        obtain ⟨c17, F⟩ := F
        obtain ⟨c18, F⟩ := F
        refine x_getr hG hM ck_Ou 0 (Nat.le_of_ble_eq_true rfl) rfl rfl w_75 rfl d_WP_leads_71 c17 c18 ?_
        refine x_iload_n hM d_WP_leads_74 rfl 3 rfl ?_
        refine x_iload hM d_WP_leads_75 0 rfl ?_
        obtain ⟨c16, F⟩ := F
        refine x_callV hG hM (r' := r_Wo_after) (ci := 1) [.ref (rf h10 (rf h10 (rf h10 (rf h4 (rf h4 (rf h4 v0 0) 5) (Int32.toNatClampNeg v2)) 1) (Int32.toNatClampNeg v3)) 0), .int v1, .int x9] rfl rfl (Nat.le_of_ble_eq_true rfl) yk_Wo_after ⟨Nat.le_of_ble_eq_true rfl, Nat.le_of_ble_eq_true rfl⟩ w_560 w_561 w_562 rfl rfl (Nat.le_of_ble_eq_true rfl) d_WP_leads_77 c16 (sem_mono F ?_)
        intro u14 h13 F
        obtain ⟨x15, rfl, F⟩ := F
        refine x_goto (tgt := 84) hM d_WP_leads_80 (by decide) ?_
        exact x_ireturn hM d_WP_leads_84 rfl F
    · replace F := F.1 q40
      refine x_bipush (v := (-2)) hM d_WP_leads_23 (by decide) ?_
      exact x_ireturn hM d_WP_leads_25 rfl F
theorem d_WP_count_0 : decode b_WP_count 0 = .ok (.iload_n 1, 1) := by decide +kernel
theorem d_WP_count_1 : decode b_WP_count 1 = .ok (.iconst 3, 1) := by decide +kernel
theorem d_WP_count_2 : decode b_WP_count 2 = .ok (.if_icmp .lt 16, 3) := by decide +kernel
theorem d_WP_count_5 : decode b_WP_count 5 = .ok (.iload_n 1, 1) := by decide +kernel
theorem d_WP_count_6 : decode b_WP_count 6 = .ok (.bipush 9, 2) := by decide +kernel
theorem d_WP_count_8 : decode b_WP_count 8 = .ok (.if_icmp .gt 10, 3) := by decide +kernel
theorem d_WP_count_11 : decode b_WP_count 11 = .ok (.aload_n 0, 1) := by decide +kernel
theorem d_WP_count_12 : decode b_WP_count 12 = .ok (.getfield 12, 3) := by decide +kernel
theorem d_WP_count_15 : decode b_WP_count 15 = .ok (.invokevirtual 166, 3) := by decide +kernel
theorem d_WP_count_18 : decode b_WP_count 18 = .ok (.iload_n 1, 1) := by decide +kernel
theorem d_WP_count_19 : decode b_WP_count 19 = .ok (.tableswitch 160 0 10 #[57, 65, 73, 81, 93, 105, 115, 125, 135, 140, 152], 57) := by decide +kernel
theorem d_WP_count_76 : decode b_WP_count 76 = .ok (.aload_n 0, 1) := by decide +kernel
theorem d_WP_count_77 : decode b_WP_count 77 = .ok (.getfield 12, 3) := by decide +kernel
theorem d_WP_count_80 : decode b_WP_count 80 = .ok (.getfield 169, 3) := by decide +kernel
theorem d_WP_count_83 : decode b_WP_count 83 = .ok (.ireturn, 1) := by decide +kernel
theorem d_WP_count_84 : decode b_WP_count 84 = .ok (.aload_n 0, 1) := by decide +kernel
theorem d_WP_count_85 : decode b_WP_count 85 = .ok (.getfield 12, 3) := by decide +kernel
theorem d_WP_count_88 : decode b_WP_count 88 = .ok (.getfield 76, 3) := by decide +kernel
theorem d_WP_count_91 : decode b_WP_count 91 = .ok (.ireturn, 1) := by decide +kernel
theorem d_WP_count_92 : decode b_WP_count 92 = .ok (.aload_n 0, 1) := by decide +kernel
theorem d_WP_count_93 : decode b_WP_count 93 = .ok (.getfield 12, 3) := by decide +kernel
theorem d_WP_count_96 : decode b_WP_count 96 = .ok (.getfield 89, 3) := by decide +kernel
theorem d_WP_count_99 : decode b_WP_count 99 = .ok (.ireturn, 1) := by decide +kernel
theorem d_WP_count_100 : decode b_WP_count 100 = .ok (.aload_n 0, 1) := by decide +kernel
theorem d_WP_count_101 : decode b_WP_count 101 = .ok (.invokevirtual 172, 3) := by decide +kernel
theorem d_WP_count_104 : decode b_WP_count 104 = .ok (.aload_n 0, 1) := by decide +kernel
theorem d_WP_count_105 : decode b_WP_count 105 = .ok (.getfield 40, 3) := by decide +kernel
theorem d_WP_count_108 : decode b_WP_count 108 = .ok (.getfield 175, 3) := by decide +kernel
theorem d_WP_count_111 : decode b_WP_count 111 = .ok (.ireturn, 1) := by decide +kernel
theorem d_WP_count_112 : decode b_WP_count 112 = .ok (.aload_n 0, 1) := by decide +kernel
theorem d_WP_count_113 : decode b_WP_count 113 = .ok (.invokevirtual 178, 3) := by decide +kernel
theorem d_WP_count_116 : decode b_WP_count 116 = .ok (.aload_n 0, 1) := by decide +kernel
theorem d_WP_count_117 : decode b_WP_count 117 = .ok (.getfield 47, 3) := by decide +kernel
theorem d_WP_count_120 : decode b_WP_count 120 = .ok (.getfield 181, 3) := by decide +kernel
theorem d_WP_count_123 : decode b_WP_count 123 = .ok (.ireturn, 1) := by decide +kernel
theorem d_WP_count_124 : decode b_WP_count 124 = .ok (.aload_n 0, 1) := by decide +kernel
theorem d_WP_count_125 : decode b_WP_count 125 = .ok (.aload_n 0, 1) := by decide +kernel
theorem d_WP_count_126 : decode b_WP_count 126 = .ok (.iconst 1, 1) := by decide +kernel
theorem d_WP_count_127 : decode b_WP_count 127 = .ok (.invokevirtual 184, 3) := by decide +kernel
theorem d_WP_count_130 : decode b_WP_count 130 = .ok (.invokevirtual 188, 3) := by decide +kernel
theorem d_WP_count_133 : decode b_WP_count 133 = .ok (.ireturn, 1) := by decide +kernel
theorem d_WP_count_134 : decode b_WP_count 134 = .ok (.aload_n 0, 1) := by decide +kernel
theorem d_WP_count_135 : decode b_WP_count 135 = .ok (.aload_n 0, 1) := by decide +kernel
theorem d_WP_count_136 : decode b_WP_count 136 = .ok (.iconst 2, 1) := by decide +kernel
theorem d_WP_count_137 : decode b_WP_count 137 = .ok (.invokevirtual 184, 3) := by decide +kernel
theorem d_WP_count_140 : decode b_WP_count 140 = .ok (.invokevirtual 188, 3) := by decide +kernel
theorem d_WP_count_143 : decode b_WP_count 143 = .ok (.ireturn, 1) := by decide +kernel
theorem d_WP_count_144 : decode b_WP_count 144 = .ok (.aload_n 0, 1) := by decide +kernel
theorem d_WP_count_145 : decode b_WP_count 145 = .ok (.aload_n 0, 1) := by decide +kernel
theorem d_WP_count_146 : decode b_WP_count 146 = .ok (.iconst 3, 1) := by decide +kernel
theorem d_WP_count_147 : decode b_WP_count 147 = .ok (.invokevirtual 184, 3) := by decide +kernel
theorem d_WP_count_150 : decode b_WP_count 150 = .ok (.invokevirtual 188, 3) := by decide +kernel
theorem d_WP_count_153 : decode b_WP_count 153 = .ok (.ireturn, 1) := by decide +kernel
theorem d_WP_count_154 : decode b_WP_count 154 = .ok (.aload_n 0, 1) := by decide +kernel
theorem d_WP_count_155 : decode b_WP_count 155 = .ok (.invokevirtual 192, 3) := by decide +kernel
theorem d_WP_count_158 : decode b_WP_count 158 = .ok (.ireturn, 1) := by decide +kernel
theorem d_WP_count_159 : decode b_WP_count 159 = .ok (.aload_n 0, 1) := by decide +kernel
theorem d_WP_count_160 : decode b_WP_count 160 = .ok (.invokevirtual 195, 3) := by decide +kernel
theorem d_WP_count_163 : decode b_WP_count 163 = .ok (.aload_n 0, 1) := by decide +kernel
theorem d_WP_count_164 : decode b_WP_count 164 = .ok (.getfield 54, 3) := by decide +kernel
theorem d_WP_count_167 : decode b_WP_count 167 = .ok (.getfield 198, 3) := by decide +kernel
theorem d_WP_count_170 : decode b_WP_count 170 = .ok (.ireturn, 1) := by decide +kernel
theorem d_WP_count_171 : decode b_WP_count 171 = .ok (.aload_n 0, 1) := by decide +kernel
theorem d_WP_count_172 : decode b_WP_count 172 = .ok (.getfield 26, 3) := by decide +kernel
theorem d_WP_count_175 : decode b_WP_count 175 = .ok (.getfield 85, 3) := by decide +kernel
theorem d_WP_count_178 : decode b_WP_count 178 = .ok (.ireturn, 1) := by decide +kernel
theorem d_WP_count_179 : decode b_WP_count 179 = .ok (.bipush (-2), 2) := by decide +kernel
theorem d_WP_count_181 : decode b_WP_count 181 = .ok (.ireturn, 1) := by decide +kernel
set_option maxRecDepth 100000 in
set_option maxHeartbeats 4000000 in
theorem S_WP_count_0 {G : Gc} {M : Mc} {Q : State → Prop} {K : Option Value → Hp → Prop} (hG : gok G) (hM : mok G M r_WP_count Q K) (v0 : Nat) (v1 : Int32) (h : Hp) (F : (v1 < 3 → X G M Q 18 [(0, .ref v0), (1, .int v1)] [] h) ∧ (¬ v1 < 3 → ((9 < v1 → X G M Q 18 [(0, .ref v0), (1, .int v1)] [] h) ∧ (¬ 9 < v1 → (kT h v0 = 1 ∧ kR h v0 0 = some (rf h v0 0) ∧ (kT h (rf h v0 0) = 2 ∧ sem G r_Wo_prepare [.ref (rf h v0 0)] h (fun u2 h1 => u2 = none ∧ X G M Q 18 [(0, .ref v0), (1, .int v1)] [] h1))))))) : X G M Q 0 [(0, .ref v0), (1, .int v1)] [] h := by
  refine x_iload_n hM d_WP_count_0 rfl 1 rfl ?_
  refine x_iconst (v := 3) hM d_WP_count_1 (by decide) ?_
  refine x_icmp_lt (tgt := 18) hM d_WP_count_2 (by decide) (fun q7 => ?_) (fun q7 => ?_)
  · replace F := F.1 q7
    exact F
  · replace F := F.2 q7
    refine x_iload_n hM d_WP_count_5 rfl 1 rfl ?_
    refine x_bipush (v := 9) hM d_WP_count_6 (by decide) ?_
    refine x_icmp_gt (tgt := 18) hM d_WP_count_8 (by decide) (fun q6 => ?_) (fun q6 => ?_)
    · replace F := F.1 q6
      exact F
    · replace F := F.2 q6
      refine x_aload_n hM d_WP_count_11 rfl 0 rfl ?_
      obtain ⟨c4, F⟩ := F
      obtain ⟨c5, F⟩ := F
      refine x_getr hG hM ck_WP 0 (Nat.le_of_ble_eq_true rfl) rfl rfl w_402 rfl d_WP_count_12 c4 c5 ?_
      obtain ⟨c3, F⟩ := F
      refine x_callV hG hM (r' := r_Wo_prepare) (ci := 1) [] rfl rfl (Nat.le_of_ble_eq_true rfl) yk_Wo_prepare ⟨Nat.le_of_ble_eq_true rfl, Nat.le_of_ble_eq_true rfl⟩ w_577 w_578 w_579 rfl rfl (Nat.le_of_ble_eq_true rfl) d_WP_count_15 c3 (sem_mono F ?_)
      intro u2 h1 F
      obtain ⟨rfl, F⟩ := F
      exact F
set_option maxRecDepth 100000 in
set_option maxHeartbeats 4000000 in
theorem S_WP_count_18 {G : Gc} {M : Mc} {Q : State → Prop} {K : Option Value → Hp → Prop} (hG : gok G) (hM : mok G M r_WP_count Q K) (v0 : Nat) (v1 : Int32) (h : Hp) (F : (v1 = 0 → (kT h v0 = 1 ∧ kR h v0 0 = some (rf h v0 0) ∧ (kT h (rf h v0 0) = 2 ∧ K (some (.int (kI h (rf h v0 0) 1))) h))) ∧ (v1 = 1 → (kT h v0 = 1 ∧ kR h v0 0 = some (rf h v0 0) ∧ (kT h (rf h v0 0) = 2 ∧ K (some (.int (kI h (rf h v0 0) 0))) h))) ∧ (v1 = 2 → (kT h v0 = 1 ∧ kR h v0 0 = some (rf h v0 0) ∧ (kT h (rf h v0 0) = 2 ∧ K (some (.int (kI h (rf h v0 0) 2))) h))) ∧ (v1 = 3 → (kT h v0 = 1 ∧ sem G r_WP_findReached [.ref v0] h (fun u11 h10 => u11 = none ∧ (kT h10 v0 = 1 ∧ kR h10 v0 4 = some (rf h10 v0 4) ∧ (kT h10 (rf h10 v0 4) = 8 ∧ K (some (.int (kI h10 (rf h10 v0 4) 3))) h10))))) ∧ (v1 = 4 → (kT h v0 = 1 ∧ sem G r_WP_findAim [.ref v0] h (fun u17 h16 => u17 = none ∧ (kT h16 v0 = 1 ∧ kR h16 v0 5 = some (rf h16 v0 5) ∧ (kT h16 (rf h16 v0 5) = 9 ∧ K (some (.int (kI h16 (rf h16 v0 5) 1))) h16))))) ∧ (v1 = 5 → (kT h v0 = 1 ∧ sem G r_WP_findNumbers [.ref v0, .int 1] h (fun u23 h22 => ∃ x24 : Nat, u23 = some (.ref x24) ∧ (kT h22 v0 = 1 ∧ sem G r_WP_countNumbered [.ref v0, .ref x24] h22 (fun u26 h25 => ∃ x27 : Int32, u26 = some (.int x27) ∧ K (some (.int x27)) h25))))) ∧ (v1 = 6 → (kT h v0 = 1 ∧ sem G r_WP_findNumbers [.ref v0, .int 2] h (fun u31 h30 => ∃ x32 : Nat, u31 = some (.ref x32) ∧ (kT h30 v0 = 1 ∧ sem G r_WP_countNumbered [.ref v0, .ref x32] h30 (fun u34 h33 => ∃ x35 : Int32, u34 = some (.int x35) ∧ K (some (.int x35)) h33))))) ∧ (v1 = 7 → (kT h v0 = 1 ∧ sem G r_WP_findNumbers [.ref v0, .int 3] h (fun u39 h38 => ∃ x40 : Nat, u39 = some (.ref x40) ∧ (kT h38 v0 = 1 ∧ sem G r_WP_countNumbered [.ref v0, .ref x40] h38 (fun u42 h41 => ∃ x43 : Int32, u42 = some (.int x43) ∧ K (some (.int x43)) h41))))) ∧ (v1 = 8 → (kT h v0 = 1 ∧ sem G r_WP_countDead [.ref v0] h (fun u47 h46 => ∃ x48 : Int32, u47 = some (.int x48) ∧ K (some (.int x48)) h46))) ∧ (v1 = 9 → (kT h v0 = 1 ∧ sem G r_WP_findKinds [.ref v0] h (fun u51 h50 => u51 = none ∧ (kT h50 v0 = 1 ∧ kR h50 v0 6 = some (rf h50 v0 6) ∧ (kT h50 (rf h50 v0 6) = 10 ∧ K (some (.int (kI h50 (rf h50 v0 6) 0))) h50))))) ∧ (v1 = 10 → (kT h v0 = 1 ∧ kR h v0 2 = some (rf h v0 2) ∧ (kT h (rf h v0 2) = 6 ∧ K (some (.int (kI h (rf h v0 2) 0))) h))) ∧ (¬ v1 = 0 → ¬ v1 = 1 → ¬ v1 = 2 → ¬ v1 = 3 → ¬ v1 = 4 → ¬ v1 = 5 → ¬ v1 = 6 → ¬ v1 = 7 → ¬ v1 = 8 → ¬ v1 = 9 → ¬ v1 = 10 → K (some (.int (-2))) h)) : X G M Q 18 [(0, .ref v0), (1, .int v1)] [] h := by
  refine x_iload_n hM d_WP_count_18 rfl 1 rfl ?_
  by_cases q19_0 : v1 = 0
  · replace F := F.1 q19_0
    refine x_tblIn (tgt := 76) hM d_WP_count_19 (by rw [q19_0]; decide) (by rw [q19_0]; decide) (by rw [q19_0]; rfl) (by decide) ?_
    refine x_aload_n hM d_WP_count_76 rfl 0 rfl ?_
    obtain ⟨c2, F⟩ := F
    obtain ⟨c3, F⟩ := F
    refine x_getr hG hM ck_WP 0 (Nat.le_of_ble_eq_true rfl) rfl rfl w_402 rfl d_WP_count_77 c2 c3 ?_
    obtain ⟨c1, F⟩ := F
    refine x_geti hG hM ck_Wo 1 (Nat.le_of_ble_eq_true rfl) rfl rfl w_132 rfl d_WP_count_80 c1 ?_
    exact x_ireturn hM d_WP_count_83 rfl F
  by_cases q19_1 : v1 = 1
  · replace F := F.2.1 q19_1
    refine x_tblIn (tgt := 84) hM d_WP_count_19 (by rw [q19_1]; decide) (by rw [q19_1]; decide) (by rw [q19_1]; rfl) (by decide) ?_
    refine x_aload_n hM d_WP_count_84 rfl 0 rfl ?_
    obtain ⟨c5, F⟩ := F
    obtain ⟨c6, F⟩ := F
    refine x_getr hG hM ck_WP 0 (Nat.le_of_ble_eq_true rfl) rfl rfl w_402 rfl d_WP_count_85 c5 c6 ?_
    obtain ⟨c4, F⟩ := F
    refine x_geti hG hM ck_Wo 0 (Nat.le_of_ble_eq_true rfl) rfl rfl w_124 rfl d_WP_count_88 c4 ?_
    exact x_ireturn hM d_WP_count_91 rfl F
  by_cases q19_2 : v1 = 2
  · replace F := F.2.2.1 q19_2
    refine x_tblIn (tgt := 92) hM d_WP_count_19 (by rw [q19_2]; decide) (by rw [q19_2]; decide) (by rw [q19_2]; rfl) (by decide) ?_
    refine x_aload_n hM d_WP_count_92 rfl 0 rfl ?_
    obtain ⟨c8, F⟩ := F
    obtain ⟨c9, F⟩ := F
    refine x_getr hG hM ck_WP 0 (Nat.le_of_ble_eq_true rfl) rfl rfl w_402 rfl d_WP_count_93 c8 c9 ?_
    obtain ⟨c7, F⟩ := F
    refine x_geti hG hM ck_Wo 2 (Nat.le_of_ble_eq_true rfl) rfl rfl w_136 rfl d_WP_count_96 c7 ?_
    exact x_ireturn hM d_WP_count_99 rfl F
  by_cases q19_3 : v1 = 3
  · replace F := F.2.2.2.1 q19_3
    refine x_tblIn (tgt := 100) hM d_WP_count_19 (by rw [q19_3]; decide) (by rw [q19_3]; decide) (by rw [q19_3]; rfl) (by decide) ?_
    refine x_aload_n hM d_WP_count_100 rfl 0 rfl ?_
    obtain ⟨c15, F⟩ := F
    refine x_callV hG hM (r' := r_WP_findReached) (ci := 0) [] rfl rfl (Nat.le_of_ble_eq_true rfl) yk_WP_findReached ⟨Nat.le_of_ble_eq_true rfl, Nat.le_of_ble_eq_true rfl⟩ w_616 w_618 ws_WP_findReached rfl rfl (Nat.le_of_ble_eq_true rfl) d_WP_count_101 c15 (sem_mono F ?_)
    intro u11 h10 F
    obtain ⟨rfl, F⟩ := F
    refine x_aload_n hM d_WP_count_104 rfl 0 rfl ?_
    obtain ⟨c13, F⟩ := F
    obtain ⟨c14, F⟩ := F
    refine x_getr hG hM ck_WP 4 (Nat.le_of_ble_eq_true rfl) rfl rfl w_406 rfl d_WP_count_105 c13 c14 ?_
    obtain ⟨c12, F⟩ := F
    refine x_geti hG hM ck_Re 3 (Nat.le_of_ble_eq_true rfl) rfl rfl w_262 rfl d_WP_count_108 c12 ?_
    exact x_ireturn hM d_WP_count_111 rfl F
  by_cases q19_4 : v1 = 4
  · replace F := F.2.2.2.2.1 q19_4
    refine x_tblIn (tgt := 112) hM d_WP_count_19 (by rw [q19_4]; decide) (by rw [q19_4]; decide) (by rw [q19_4]; rfl) (by decide) ?_
    refine x_aload_n hM d_WP_count_112 rfl 0 rfl ?_
    obtain ⟨c21, F⟩ := F
    refine x_callV hG hM (r' := r_WP_findAim) (ci := 0) [] rfl rfl (Nat.le_of_ble_eq_true rfl) yk_WP_findAim ⟨Nat.le_of_ble_eq_true rfl, Nat.le_of_ble_eq_true rfl⟩ w_638 w_640 ws_WP_findAim rfl rfl (Nat.le_of_ble_eq_true rfl) d_WP_count_113 c21 (sem_mono F ?_)
    intro u17 h16 F
    obtain ⟨rfl, F⟩ := F
    refine x_aload_n hM d_WP_count_116 rfl 0 rfl ?_
    obtain ⟨c19, F⟩ := F
    obtain ⟨c20, F⟩ := F
    refine x_getr hG hM ck_WP 5 (Nat.le_of_ble_eq_true rfl) rfl rfl w_407 rfl d_WP_count_117 c19 c20 ?_
    obtain ⟨c18, F⟩ := F
    refine x_geti hG hM ck_Wi 1 (Nat.le_of_ble_eq_true rfl) rfl rfl w_286 rfl d_WP_count_120 c18 ?_
    exact x_ireturn hM d_WP_count_123 rfl F
  by_cases q19_5 : v1 = 5
  · replace F := F.2.2.2.2.2.1 q19_5
    refine x_tblIn (tgt := 124) hM d_WP_count_19 (by rw [q19_5]; decide) (by rw [q19_5]; decide) (by rw [q19_5]; rfl) (by decide) ?_
    refine x_aload_n hM d_WP_count_124 rfl 0 rfl ?_
    refine x_aload_n hM d_WP_count_125 rfl 0 rfl ?_
    refine x_iconst (v := 1) hM d_WP_count_126 (by decide) ?_
    obtain ⟨c29, F⟩ := F
    refine x_callV hG hM (r' := r_WP_findNumbers) (ci := 0) [.int 1] rfl rfl (Nat.le_of_ble_eq_true rfl) yk_WP_findNumbers ⟨Nat.le_of_ble_eq_true rfl, Nat.le_of_ble_eq_true rfl⟩ w_650 w_652 ws_WP_findNumbers rfl rfl (Nat.le_of_ble_eq_true rfl) d_WP_count_127 c29 (sem_mono F ?_)
    intro u23 h22 F
    obtain ⟨x24, rfl, F⟩ := F
    obtain ⟨c28, F⟩ := F
    refine x_callV hG hM (r' := r_WP_countNumbered) (ci := 0) [.ref x24] rfl rfl (Nat.le_of_ble_eq_true rfl) yk_WP_countNumbered ⟨Nat.le_of_ble_eq_true rfl, Nat.le_of_ble_eq_true rfl⟩ w_686 w_688 ws_WP_countNumbered rfl rfl (Nat.le_of_ble_eq_true rfl) d_WP_count_130 c28 (sem_mono F ?_)
    intro u26 h25 F
    obtain ⟨x27, rfl, F⟩ := F
    exact x_ireturn hM d_WP_count_133 rfl F
  by_cases q19_6 : v1 = 6
  · replace F := F.2.2.2.2.2.2.1 q19_6
    refine x_tblIn (tgt := 134) hM d_WP_count_19 (by rw [q19_6]; decide) (by rw [q19_6]; decide) (by rw [q19_6]; rfl) (by decide) ?_
    refine x_aload_n hM d_WP_count_134 rfl 0 rfl ?_
    refine x_aload_n hM d_WP_count_135 rfl 0 rfl ?_
    refine x_iconst (v := 2) hM d_WP_count_136 (by decide) ?_
    obtain ⟨c37, F⟩ := F
    refine x_callV hG hM (r' := r_WP_findNumbers) (ci := 0) [.int 2] rfl rfl (Nat.le_of_ble_eq_true rfl) yk_WP_findNumbers ⟨Nat.le_of_ble_eq_true rfl, Nat.le_of_ble_eq_true rfl⟩ w_650 w_652 ws_WP_findNumbers rfl rfl (Nat.le_of_ble_eq_true rfl) d_WP_count_137 c37 (sem_mono F ?_)
    intro u31 h30 F
    obtain ⟨x32, rfl, F⟩ := F
    obtain ⟨c36, F⟩ := F
    refine x_callV hG hM (r' := r_WP_countNumbered) (ci := 0) [.ref x32] rfl rfl (Nat.le_of_ble_eq_true rfl) yk_WP_countNumbered ⟨Nat.le_of_ble_eq_true rfl, Nat.le_of_ble_eq_true rfl⟩ w_686 w_688 ws_WP_countNumbered rfl rfl (Nat.le_of_ble_eq_true rfl) d_WP_count_140 c36 (sem_mono F ?_)
    intro u34 h33 F
    obtain ⟨x35, rfl, F⟩ := F
    exact x_ireturn hM d_WP_count_143 rfl F
  by_cases q19_7 : v1 = 7
  · replace F := F.2.2.2.2.2.2.2.1 q19_7
    refine x_tblIn (tgt := 144) hM d_WP_count_19 (by rw [q19_7]; decide) (by rw [q19_7]; decide) (by rw [q19_7]; rfl) (by decide) ?_
    refine x_aload_n hM d_WP_count_144 rfl 0 rfl ?_
    refine x_aload_n hM d_WP_count_145 rfl 0 rfl ?_
    refine x_iconst (v := 3) hM d_WP_count_146 (by decide) ?_
    obtain ⟨c45, F⟩ := F
    refine x_callV hG hM (r' := r_WP_findNumbers) (ci := 0) [.int 3] rfl rfl (Nat.le_of_ble_eq_true rfl) yk_WP_findNumbers ⟨Nat.le_of_ble_eq_true rfl, Nat.le_of_ble_eq_true rfl⟩ w_650 w_652 ws_WP_findNumbers rfl rfl (Nat.le_of_ble_eq_true rfl) d_WP_count_147 c45 (sem_mono F ?_)
    intro u39 h38 F
    obtain ⟨x40, rfl, F⟩ := F
    obtain ⟨c44, F⟩ := F
    refine x_callV hG hM (r' := r_WP_countNumbered) (ci := 0) [.ref x40] rfl rfl (Nat.le_of_ble_eq_true rfl) yk_WP_countNumbered ⟨Nat.le_of_ble_eq_true rfl, Nat.le_of_ble_eq_true rfl⟩ w_686 w_688 ws_WP_countNumbered rfl rfl (Nat.le_of_ble_eq_true rfl) d_WP_count_150 c44 (sem_mono F ?_)
    intro u42 h41 F
    obtain ⟨x43, rfl, F⟩ := F
    exact x_ireturn hM d_WP_count_153 rfl F
  by_cases q19_8 : v1 = 8
  · replace F := F.2.2.2.2.2.2.2.2.1 q19_8
    refine x_tblIn (tgt := 154) hM d_WP_count_19 (by rw [q19_8]; decide) (by rw [q19_8]; decide) (by rw [q19_8]; rfl) (by decide) ?_
    refine x_aload_n hM d_WP_count_154 rfl 0 rfl ?_
    obtain ⟨c49, F⟩ := F
    refine x_callV hG hM (r' := r_WP_countDead) (ci := 0) [] rfl rfl (Nat.le_of_ble_eq_true rfl) yk_WP_countDead ⟨Nat.le_of_ble_eq_true rfl, Nat.le_of_ble_eq_true rfl⟩ w_690 w_692 ws_WP_countDead rfl rfl (Nat.le_of_ble_eq_true rfl) d_WP_count_155 c49 (sem_mono F ?_)
    intro u47 h46 F
    obtain ⟨x48, rfl, F⟩ := F
    exact x_ireturn hM d_WP_count_158 rfl F
  by_cases q19_9 : v1 = 9
  · replace F := F.2.2.2.2.2.2.2.2.2.1 q19_9
    refine x_tblIn (tgt := 159) hM d_WP_count_19 (by rw [q19_9]; decide) (by rw [q19_9]; decide) (by rw [q19_9]; rfl) (by decide) ?_
    refine x_aload_n hM d_WP_count_159 rfl 0 rfl ?_
    obtain ⟨c55, F⟩ := F
    refine x_callV hG hM (r' := r_WP_findKinds) (ci := 0) [] rfl rfl (Nat.le_of_ble_eq_true rfl) yk_WP_findKinds ⟨Nat.le_of_ble_eq_true rfl, Nat.le_of_ble_eq_true rfl⟩ w_694 w_696 ws_WP_findKinds rfl rfl (Nat.le_of_ble_eq_true rfl) d_WP_count_160 c55 (sem_mono F ?_)
    intro u51 h50 F
    obtain ⟨rfl, F⟩ := F
    refine x_aload_n hM d_WP_count_163 rfl 0 rfl ?_
    obtain ⟨c53, F⟩ := F
    obtain ⟨c54, F⟩ := F
    refine x_getr hG hM ck_WP 6 (Nat.le_of_ble_eq_true rfl) rfl rfl w_408 rfl d_WP_count_164 c53 c54 ?_
    obtain ⟨c52, F⟩ := F
    refine x_geti hG hM ck_Ki 0 (Nat.le_of_ble_eq_true rfl) rfl rfl w_322 rfl d_WP_count_167 c52 ?_
    exact x_ireturn hM d_WP_count_170 rfl F
  by_cases q19_10 : v1 = 10
  · replace F := F.2.2.2.2.2.2.2.2.2.2.1 q19_10
    refine x_tblIn (tgt := 171) hM d_WP_count_19 (by rw [q19_10]; decide) (by rw [q19_10]; decide) (by rw [q19_10]; rfl) (by decide) ?_
    refine x_aload_n hM d_WP_count_171 rfl 0 rfl ?_
    obtain ⟨c57, F⟩ := F
    obtain ⟨c58, F⟩ := F
    refine x_getr hG hM ck_WP 2 (Nat.le_of_ble_eq_true rfl) rfl rfl w_404 rfl d_WP_count_172 c57 c58 ?_
    obtain ⟨c56, F⟩ := F
    refine x_geti hG hM ck_Co 0 (Nat.le_of_ble_eq_true rfl) rfl rfl w_195 rfl d_WP_count_175 c56 ?_
    exact x_ireturn hM d_WP_count_178 rfl F
  replace F := F.2.2.2.2.2.2.2.2.2.2.2 q19_0 q19_1 q19_2 q19_3 q19_4 q19_5 q19_6 q19_7 q19_8 q19_9 q19_10
  refine x_tblOut (tgt := 179) hM d_WP_count_19 (sw_out10 q19_0 q19_1 q19_2 q19_3 q19_4 q19_5 q19_6 q19_7 q19_8 q19_9 q19_10) (by decide) ?_
  refine x_bipush (v := (-2)) hM d_WP_count_179 (by decide) ?_
  exact x_ireturn hM d_WP_count_181 rfl F
theorem d_WP_findReached_0 : decode b_WP_findReached 0 = .ok (.aload_n 0, 1) := by decide +kernel
theorem d_WP_findReached_1 : decode b_WP_findReached 1 = .ok (.getfield 40, 3) := by decide +kernel
theorem d_WP_findReached_4 : decode b_WP_findReached 4 = .ok (.getfield 290, 3) := by decide +kernel
theorem d_WP_findReached_7 : decode b_WP_findReached 7 = .ok (.aload_n 0, 1) := by decide +kernel
theorem d_WP_findReached_8 : decode b_WP_findReached 8 = .ok (.getfield 33, 3) := by decide +kernel
theorem d_WP_findReached_11 : decode b_WP_findReached 11 = .ok (.getfield 291, 3) := by decide +kernel
theorem d_WP_findReached_14 : decode b_WP_findReached 14 = .ok (.aload_n 0, 1) := by decide +kernel
theorem d_WP_findReached_15 : decode b_WP_findReached 15 = .ok (.getfield 33, 3) := by decide +kernel
theorem d_WP_findReached_18 : decode b_WP_findReached 18 = .ok (.getfield 293, 3) := by decide +kernel
theorem d_WP_findReached_21 : decode b_WP_findReached 21 = .ok (.invokestatic 296, 3) := by decide +kernel
theorem d_WP_findReached_24 : decode b_WP_findReached 24 = .ok (.lcmp, 1) := by decide +kernel
theorem d_WP_findReached_25 : decode b_WP_findReached 25 = .ok (.ifCond .ge 32, 3) := by decide +kernel
theorem d_WP_findReached_28 : decode b_WP_findReached 28 = .ok (.aload_n 0, 1) := by decide +kernel
theorem d_WP_findReached_29 : decode b_WP_findReached 29 = .ok (.getfield 40, 3) := by decide +kernel
theorem d_WP_findReached_32 : decode b_WP_findReached 32 = .ok (.aload_n 0, 1) := by decide +kernel
theorem d_WP_findReached_33 : decode b_WP_findReached 33 = .ok (.getfield 12, 3) := by decide +kernel
theorem d_WP_findReached_36 : decode b_WP_findReached 36 = .ok (.aload_n 0, 1) := by decide +kernel
theorem d_WP_findReached_37 : decode b_WP_findReached 37 = .ok (.getfield 65, 3) := by decide +kernel
theorem d_WP_findReached_40 : decode b_WP_findReached 40 = .ok (.invokevirtual 302, 3) := by decide +kernel
theorem d_WP_findReached_43 : decode b_WP_findReached 43 = .ok (.aload_n 0, 1) := by decide +kernel
theorem d_WP_findReached_44 : decode b_WP_findReached 44 = .ok (.getfield 40, 3) := by decide +kernel
theorem d_WP_findReached_47 : decode b_WP_findReached 47 = .ok (.aload_n 0, 1) := by decide +kernel
theorem d_WP_findReached_48 : decode b_WP_findReached 48 = .ok (.getfield 33, 3) := by decide +kernel
theorem d_WP_findReached_51 : decode b_WP_findReached 51 = .ok (.getfield 235, 3) := by decide +kernel
theorem d_WP_findReached_54 : decode b_WP_findReached 54 = .ok (.putfield 290, 3) := by decide +kernel
theorem d_WP_findReached_57 : decode b_WP_findReached 57 = .ok (.return_, 1) := by decide +kernel
set_option maxRecDepth 100000 in
set_option maxHeartbeats 4000000 in
theorem S_WP_findReached_0 {G : Gc} {M : Mc} {Q : State → Prop} {K : Option Value → Hp → Prop} (hG : gok G) (hM : mok G M r_WP_findReached Q K) (v0 : Nat) (h : Hp) (F : kT h v0 = 1 ∧ kR h v0 4 = some (rf h v0 4) ∧ (kT h (rf h v0 4) = 8 ∧ (kT h v0 = 1 ∧ kR h v0 3 = some (rf h v0 3) ∧ (kT h (rf h v0 3) = 7 ∧ (kT h v0 = 1 ∧ kR h v0 3 = some (rf h v0 3) ∧ (kT h (rf h v0 3) = 7 ∧ (∀ z1 : Int64, z1 = (if (kL h (rf h v0 3) 2) < (kL h (rf h v0 3) 1) then (kL h (rf h v0 3) 1) else (kL h (rf h v0 3) 2)) → ((0 ≤ (lg_cmp (kL h (rf h v0 4) 4) z1) → K none h) ∧ (¬ 0 ≤ (lg_cmp (kL h (rf h v0 4) 4) z1) → (kT h v0 = 1 ∧ kR h v0 4 = some (rf h v0 4) ∧ (kT h v0 = 1 ∧ kR h v0 0 = some (rf h v0 0) ∧ (kT h v0 = 1 ∧ (kT h (rf h v0 4) = 8 ∧ sem G r_Re_spread [.ref (rf h v0 4), .ref (rf h v0 0), .int (kI h v0 8)] h (fun u3 h2 => u3 = none ∧ (kT h2 v0 = 1 ∧ kR h2 v0 4 = some (rf h2 v0 4) ∧ (kT h2 v0 = 1 ∧ kR h2 v0 3 = some (rf h2 v0 3) ∧ (kT h2 (rf h2 v0 3) = 7 ∧ (kT h2 (rf h2 v0 4) = 8 ∧ (∀ h4 : Hp, h4 = wL h2 (rf h2 v0 4) 4 (kL h2 (rf h2 v0 3) 0) → K none h4))))))))))))))))))) : X G M Q 0 [(0, .ref v0)] [] h := by
  refine x_aload_n hM d_WP_findReached_0 rfl 0 rfl ?_
  obtain ⟨c25, F⟩ := F
  obtain ⟨c26, F⟩ := F
  refine x_getr hG hM ck_WP 4 (Nat.le_of_ble_eq_true rfl) rfl rfl w_406 rfl d_WP_findReached_1 c25 c26 ?_
  obtain ⟨c24, F⟩ := F
  refine x_getl hG hM ck_Re 4 (Nat.le_of_ble_eq_true rfl) rfl rfl w_264 rfl d_WP_findReached_4 c24 ?_
  refine x_aload_n hM d_WP_findReached_7 rfl 0 rfl ?_
  obtain ⟨c22, F⟩ := F
  obtain ⟨c23, F⟩ := F
  refine x_getr hG hM ck_WP 3 (Nat.le_of_ble_eq_true rfl) rfl rfl w_405 rfl d_WP_findReached_8 c22 c23 ?_
  obtain ⟨c21, F⟩ := F
  refine x_getl hG hM ck_Ch 1 (Nat.le_of_ble_eq_true rfl) rfl rfl w_236 rfl d_WP_findReached_11 c21 ?_
  refine x_aload_n hM d_WP_findReached_14 rfl 0 rfl ?_
  obtain ⟨c19, F⟩ := F
  obtain ⟨c20, F⟩ := F
  refine x_getr hG hM ck_WP 3 (Nat.le_of_ble_eq_true rfl) rfl rfl w_405 rfl d_WP_findReached_15 c19 c20 ?_
  obtain ⟨c18, F⟩ := F
  refine x_getl hG hM ck_Ch 2 (Nat.le_of_ble_eq_true rfl) rfl rfl w_238 rfl d_WP_findReached_18 c18 ?_
  obtain ⟨z1, ez1⟩ : ∃ z : Int64, z = (if (kL h (rf h v0 3) 2) < (kL h (rf h v0 3) 1) then (kL h (rf h v0 3) 1) else (kL h (rf h v0 3) 2)) := ⟨_, rfl⟩
  replace F := F z1 ez1
  refine x_mmaxL hG hM rfl w_620 w_621 w_14 w_mmaxL (Nat.le_of_ble_eq_true rfl) (Nat.le_of_ble_eq_true rfl) d_WP_findReached_21 ?_
  rw [← ez1]
  clear ez1
  refine x_lcmp hM d_WP_findReached_24 ?_
  refine x_if_ge (tgt := 57) hM d_WP_findReached_25 (by decide) (fun q17 => ?_) (fun q17 => ?_)
  · replace F := F.1 q17
    exact x_return hM d_WP_findReached_57 rfl F
  · replace F := F.2 q17
    refine x_aload_n hM d_WP_findReached_28 rfl 0 rfl ?_
    obtain ⟨c15, F⟩ := F
    obtain ⟨c16, F⟩ := F
    refine x_getr hG hM ck_WP 4 (Nat.le_of_ble_eq_true rfl) rfl rfl w_406 rfl d_WP_findReached_29 c15 c16 ?_
    refine x_aload_n hM d_WP_findReached_32 rfl 0 rfl ?_
    obtain ⟨c13, F⟩ := F
    obtain ⟨c14, F⟩ := F
    refine x_getr hG hM ck_WP 0 (Nat.le_of_ble_eq_true rfl) rfl rfl w_402 rfl d_WP_findReached_33 c13 c14 ?_
    refine x_aload_n hM d_WP_findReached_36 rfl 0 rfl ?_
    obtain ⟨c12, F⟩ := F
    refine x_geti hG hM ck_WP 8 (Nat.le_of_ble_eq_true rfl) rfl rfl w_410 rfl d_WP_findReached_37 c12 ?_
    obtain ⟨c11, F⟩ := F
    refine x_callV hG hM (r' := r_Re_spread) (ci := 7) [.ref (rf h v0 0), .int (kI h v0 8)] rfl rfl (Nat.le_of_ble_eq_true rfl) yk_Re_spread ⟨Nat.le_of_ble_eq_true rfl, Nat.le_of_ble_eq_true rfl⟩ w_623 w_624 w_625 rfl rfl (Nat.le_of_ble_eq_true rfl) d_WP_findReached_40 c11 (sem_mono F ?_)
    intro u3 h2 F
    obtain ⟨rfl, F⟩ := F
    refine x_aload_n hM d_WP_findReached_43 rfl 0 rfl ?_
    obtain ⟨c9, F⟩ := F
    obtain ⟨c10, F⟩ := F
    refine x_getr hG hM ck_WP 4 (Nat.le_of_ble_eq_true rfl) rfl rfl w_406 rfl d_WP_findReached_44 c9 c10 ?_
    refine x_aload_n hM d_WP_findReached_47 rfl 0 rfl ?_
    obtain ⟨c7, F⟩ := F
    obtain ⟨c8, F⟩ := F
    refine x_getr hG hM ck_WP 3 (Nat.le_of_ble_eq_true rfl) rfl rfl w_405 rfl d_WP_findReached_48 c7 c8 ?_
    obtain ⟨c6, F⟩ := F
    refine x_getl hG hM ck_Ch 0 (Nat.le_of_ble_eq_true rfl) rfl rfl w_234 rfl d_WP_findReached_51 c6 ?_
    obtain ⟨c5, F⟩ := F
    obtain ⟨h4, eh4⟩ : ∃ z : Hp, z = wL h2 (rf h2 v0 4) 4 (kL h2 (rf h2 v0 3) 0) := ⟨_, rfl⟩
    replace F := F h4 eh4
    refine x_putl hG hM ck_Re 4 (Nat.le_of_ble_eq_true rfl) rfl rfl w_264 rfl d_WP_findReached_54 (Or.inl rfl) c5 ?_
    rw [← eh4]
    clear eh4
    exact x_return hM d_WP_findReached_57 rfl F
theorem d_WP_findAim_0 : decode b_WP_findAim 0 = .ok (.aload_n 0, 1) := by decide +kernel
theorem d_WP_findAim_1 : decode b_WP_findAim 1 = .ok (.getfield 47, 3) := by decide +kernel
theorem d_WP_findAim_4 : decode b_WP_findAim 4 = .ok (.getfield 306, 3) := by decide +kernel
theorem d_WP_findAim_7 : decode b_WP_findAim 7 = .ok (.aload_n 0, 1) := by decide +kernel
theorem d_WP_findAim_8 : decode b_WP_findAim 8 = .ok (.getfield 33, 3) := by decide +kernel
theorem d_WP_findAim_11 : decode b_WP_findAim 11 = .ok (.getfield 291, 3) := by decide +kernel
theorem d_WP_findAim_14 : decode b_WP_findAim 14 = .ok (.aload_n 0, 1) := by decide +kernel
theorem d_WP_findAim_15 : decode b_WP_findAim 15 = .ok (.getfield 33, 3) := by decide +kernel
theorem d_WP_findAim_18 : decode b_WP_findAim 18 = .ok (.getfield 309, 3) := by decide +kernel
theorem d_WP_findAim_21 : decode b_WP_findAim 21 = .ok (.invokestatic 296, 3) := by decide +kernel
theorem d_WP_findAim_24 : decode b_WP_findAim 24 = .ok (.lcmp, 1) := by decide +kernel
theorem d_WP_findAim_25 : decode b_WP_findAim 25 = .ok (.ifCond .ge 32, 3) := by decide +kernel
theorem d_WP_findAim_28 : decode b_WP_findAim 28 = .ok (.aload_n 0, 1) := by decide +kernel
theorem d_WP_findAim_29 : decode b_WP_findAim 29 = .ok (.getfield 47, 3) := by decide +kernel
theorem d_WP_findAim_32 : decode b_WP_findAim 32 = .ok (.aload_n 0, 1) := by decide +kernel
theorem d_WP_findAim_33 : decode b_WP_findAim 33 = .ok (.getfield 12, 3) := by decide +kernel
theorem d_WP_findAim_36 : decode b_WP_findAim 36 = .ok (.aload_n 0, 1) := by decide +kernel
theorem d_WP_findAim_37 : decode b_WP_findAim 37 = .ok (.getfield 19, 3) := by decide +kernel
theorem d_WP_findAim_40 : decode b_WP_findAim 40 = .ok (.invokevirtual 312, 3) := by decide +kernel
theorem d_WP_findAim_43 : decode b_WP_findAim 43 = .ok (.aload_n 0, 1) := by decide +kernel
theorem d_WP_findAim_44 : decode b_WP_findAim 44 = .ok (.getfield 47, 3) := by decide +kernel
theorem d_WP_findAim_47 : decode b_WP_findAim 47 = .ok (.aload_n 0, 1) := by decide +kernel
theorem d_WP_findAim_48 : decode b_WP_findAim 48 = .ok (.getfield 33, 3) := by decide +kernel
theorem d_WP_findAim_51 : decode b_WP_findAim 51 = .ok (.getfield 235, 3) := by decide +kernel
theorem d_WP_findAim_54 : decode b_WP_findAim 54 = .ok (.putfield 306, 3) := by decide +kernel
theorem d_WP_findAim_57 : decode b_WP_findAim 57 = .ok (.return_, 1) := by decide +kernel
set_option maxRecDepth 100000 in
set_option maxHeartbeats 4000000 in
theorem S_WP_findAim_0 {G : Gc} {M : Mc} {Q : State → Prop} {K : Option Value → Hp → Prop} (hG : gok G) (hM : mok G M r_WP_findAim Q K) (v0 : Nat) (h : Hp) (F : kT h v0 = 1 ∧ kR h v0 5 = some (rf h v0 5) ∧ (kT h (rf h v0 5) = 9 ∧ (kT h v0 = 1 ∧ kR h v0 3 = some (rf h v0 3) ∧ (kT h (rf h v0 3) = 7 ∧ (kT h v0 = 1 ∧ kR h v0 3 = some (rf h v0 3) ∧ (kT h (rf h v0 3) = 7 ∧ (∀ z1 : Int64, z1 = (if (kL h (rf h v0 3) 3) < (kL h (rf h v0 3) 1) then (kL h (rf h v0 3) 1) else (kL h (rf h v0 3) 3)) → ((0 ≤ (lg_cmp (kL h (rf h v0 5) 2) z1) → K none h) ∧ (¬ 0 ≤ (lg_cmp (kL h (rf h v0 5) 2) z1) → (kT h v0 = 1 ∧ kR h v0 5 = some (rf h v0 5) ∧ (kT h v0 = 1 ∧ kR h v0 0 = some (rf h v0 0) ∧ (kT h v0 = 1 ∧ kR h v0 1 = some (rf h v0 1) ∧ (kT h (rf h v0 5) = 9 ∧ sem G r_Wi_findAim [.ref (rf h v0 5), .ref (rf h v0 0), .ref (rf h v0 1)] h (fun u3 h2 => u3 = none ∧ (kT h2 v0 = 1 ∧ kR h2 v0 5 = some (rf h2 v0 5) ∧ (kT h2 v0 = 1 ∧ kR h2 v0 3 = some (rf h2 v0 3) ∧ (kT h2 (rf h2 v0 3) = 7 ∧ (kT h2 (rf h2 v0 5) = 9 ∧ (∀ h4 : Hp, h4 = wL h2 (rf h2 v0 5) 2 (kL h2 (rf h2 v0 3) 0) → K none h4))))))))))))))))))) : X G M Q 0 [(0, .ref v0)] [] h := by
  refine x_aload_n hM d_WP_findAim_0 rfl 0 rfl ?_
  obtain ⟨c26, F⟩ := F
  obtain ⟨c27, F⟩ := F
  refine x_getr hG hM ck_WP 5 (Nat.le_of_ble_eq_true rfl) rfl rfl w_407 rfl d_WP_findAim_1 c26 c27 ?_
  obtain ⟨c25, F⟩ := F
  refine x_getl hG hM ck_Wi 2 (Nat.le_of_ble_eq_true rfl) rfl rfl w_288 rfl d_WP_findAim_4 c25 ?_
  refine x_aload_n hM d_WP_findAim_7 rfl 0 rfl ?_
  obtain ⟨c23, F⟩ := F
  obtain ⟨c24, F⟩ := F
  refine x_getr hG hM ck_WP 3 (Nat.le_of_ble_eq_true rfl) rfl rfl w_405 rfl d_WP_findAim_8 c23 c24 ?_
  obtain ⟨c22, F⟩ := F
  refine x_getl hG hM ck_Ch 1 (Nat.le_of_ble_eq_true rfl) rfl rfl w_236 rfl d_WP_findAim_11 c22 ?_
  refine x_aload_n hM d_WP_findAim_14 rfl 0 rfl ?_
  obtain ⟨c20, F⟩ := F
  obtain ⟨c21, F⟩ := F
  refine x_getr hG hM ck_WP 3 (Nat.le_of_ble_eq_true rfl) rfl rfl w_405 rfl d_WP_findAim_15 c20 c21 ?_
  obtain ⟨c19, F⟩ := F
  refine x_getl hG hM ck_Ch 3 (Nat.le_of_ble_eq_true rfl) rfl rfl w_240 rfl d_WP_findAim_18 c19 ?_
  obtain ⟨z1, ez1⟩ : ∃ z : Int64, z = (if (kL h (rf h v0 3) 3) < (kL h (rf h v0 3) 1) then (kL h (rf h v0 3) 1) else (kL h (rf h v0 3) 3)) := ⟨_, rfl⟩
  replace F := F z1 ez1
  refine x_mmaxL hG hM rfl w_620 w_621 w_14 w_mmaxL (Nat.le_of_ble_eq_true rfl) (Nat.le_of_ble_eq_true rfl) d_WP_findAim_21 ?_
  rw [← ez1]
  clear ez1
  refine x_lcmp hM d_WP_findAim_24 ?_
  refine x_if_ge (tgt := 57) hM d_WP_findAim_25 (by decide) (fun q18 => ?_) (fun q18 => ?_)
  · replace F := F.1 q18
    exact x_return hM d_WP_findAim_57 rfl F
  · replace F := F.2 q18
    refine x_aload_n hM d_WP_findAim_28 rfl 0 rfl ?_
    obtain ⟨c16, F⟩ := F
    obtain ⟨c17, F⟩ := F
    refine x_getr hG hM ck_WP 5 (Nat.le_of_ble_eq_true rfl) rfl rfl w_407 rfl d_WP_findAim_29 c16 c17 ?_
    refine x_aload_n hM d_WP_findAim_32 rfl 0 rfl ?_
    obtain ⟨c14, F⟩ := F
    obtain ⟨c15, F⟩ := F
    refine x_getr hG hM ck_WP 0 (Nat.le_of_ble_eq_true rfl) rfl rfl w_402 rfl d_WP_findAim_33 c14 c15 ?_
    refine x_aload_n hM d_WP_findAim_36 rfl 0 rfl ?_
    obtain ⟨c12, F⟩ := F
    obtain ⟨c13, F⟩ := F
    refine x_getr hG hM ck_WP 1 (Nat.le_of_ble_eq_true rfl) rfl rfl w_403 rfl d_WP_findAim_37 c12 c13 ?_
    obtain ⟨c11, F⟩ := F
    refine x_callV hG hM (r' := r_Wi_findAim) (ci := 8) [.ref (rf h v0 0), .ref (rf h v0 1)] rfl rfl (Nat.le_of_ble_eq_true rfl) yk_Wi_findAim ⟨Nat.le_of_ble_eq_true rfl, Nat.le_of_ble_eq_true rfl⟩ w_642 w_643 w_644 rfl rfl (Nat.le_of_ble_eq_true rfl) d_WP_findAim_40 c11 (sem_mono F ?_)
    intro u3 h2 F
    obtain ⟨rfl, F⟩ := F
    refine x_aload_n hM d_WP_findAim_43 rfl 0 rfl ?_
    obtain ⟨c9, F⟩ := F
    obtain ⟨c10, F⟩ := F
    refine x_getr hG hM ck_WP 5 (Nat.le_of_ble_eq_true rfl) rfl rfl w_407 rfl d_WP_findAim_44 c9 c10 ?_
    refine x_aload_n hM d_WP_findAim_47 rfl 0 rfl ?_
    obtain ⟨c7, F⟩ := F
    obtain ⟨c8, F⟩ := F
    refine x_getr hG hM ck_WP 3 (Nat.le_of_ble_eq_true rfl) rfl rfl w_405 rfl d_WP_findAim_48 c7 c8 ?_
    obtain ⟨c6, F⟩ := F
    refine x_getl hG hM ck_Ch 0 (Nat.le_of_ble_eq_true rfl) rfl rfl w_234 rfl d_WP_findAim_51 c6 ?_
    obtain ⟨c5, F⟩ := F
    obtain ⟨h4, eh4⟩ : ∃ z : Hp, z = wL h2 (rf h2 v0 5) 2 (kL h2 (rf h2 v0 3) 0) := ⟨_, rfl⟩
    replace F := F h4 eh4
    refine x_putl hG hM ck_Wi 2 (Nat.le_of_ble_eq_true rfl) rfl rfl w_288 rfl d_WP_findAim_54 (Or.inl rfl) c5 ?_
    rw [← eh4]
    clear eh4
    exact x_return hM d_WP_findAim_57 rfl F
