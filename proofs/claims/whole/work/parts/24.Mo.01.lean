theorem d_Mo_act_0 : decode b_Mo_act 0 = .ok (.aload_n 0, 1) := by decide +kernel
theorem d_Mo_act_1 : decode b_Mo_act 1 = .ok (.getfield 112, 3) := by decide +kernel
theorem d_Mo_act_4 : decode b_Mo_act 4 = .ok (.bipush 12, 2) := by decide +kernel
theorem d_Mo_act_6 : decode b_Mo_act 6 = .ok (.if_icmp .ne 6, 3) := by decide +kernel
theorem d_Mo_act_9 : decode b_Mo_act 9 = .ok (.bipush (-3), 2) := by decide +kernel
theorem d_Mo_act_11 : decode b_Mo_act 11 = .ok (.ireturn, 1) := by decide +kernel
theorem d_Mo_act_12 : decode b_Mo_act 12 = .ok (.aload_n 0, 1) := by decide +kernel
theorem d_Mo_act_13 : decode b_Mo_act 13 = .ok (.getfield 13, 3) := by decide +kernel
theorem d_Mo_act_16 : decode b_Mo_act 16 = .ok (.aload_n 0, 1) := by decide +kernel
theorem d_Mo_act_17 : decode b_Mo_act 17 = .ok (.getfield 112, 3) := by decide +kernel
theorem d_Mo_act_20 : decode b_Mo_act 20 = .ok (.iconst 1, 1) := by decide +kernel
theorem d_Mo_act_21 : decode b_Mo_act 21 = .ok (.iastore, 1) := by decide +kernel
theorem d_Mo_act_22 : decode b_Mo_act 22 = .ok (.aload_n 0, 1) := by decide +kernel
theorem d_Mo_act_23 : decode b_Mo_act 23 = .ok (.getfield 16, 3) := by decide +kernel
theorem d_Mo_act_26 : decode b_Mo_act 26 = .ok (.aload_n 0, 1) := by decide +kernel
theorem d_Mo_act_27 : decode b_Mo_act 27 = .ok (.getfield 112, 3) := by decide +kernel
theorem d_Mo_act_30 : decode b_Mo_act 30 = .ok (.iconst 0, 1) := by decide +kernel
theorem d_Mo_act_31 : decode b_Mo_act 31 = .ok (.iastore, 1) := by decide +kernel
theorem d_Mo_act_32 : decode b_Mo_act 32 = .ok (.aload_n 0, 1) := by decide +kernel
theorem d_Mo_act_33 : decode b_Mo_act 33 = .ok (.getfield 22, 3) := by decide +kernel
theorem d_Mo_act_36 : decode b_Mo_act 36 = .ok (.iconst 3, 1) := by decide +kernel
theorem d_Mo_act_37 : decode b_Mo_act 37 = .ok (.aload_n 0, 1) := by decide +kernel
theorem d_Mo_act_38 : decode b_Mo_act 38 = .ok (.getfield 112, 3) := by decide +kernel
theorem d_Mo_act_41 : decode b_Mo_act 41 = .ok (.imul, 1) := by decide +kernel
theorem d_Mo_act_42 : decode b_Mo_act 42 = .ok (.iconst 0, 1) := by decide +kernel
theorem d_Mo_act_43 : decode b_Mo_act 43 = .ok (.iastore, 1) := by decide +kernel
theorem d_Mo_act_44 : decode b_Mo_act 44 = .ok (.aload_n 0, 1) := by decide +kernel
theorem d_Mo_act_45 : decode b_Mo_act 45 = .ok (.dup, 1) := by decide +kernel
theorem d_Mo_act_46 : decode b_Mo_act 46 = .ok (.getfield 112, 3) := by decide +kernel
theorem d_Mo_act_49 : decode b_Mo_act 49 = .ok (.iconst 1, 1) := by decide +kernel
theorem d_Mo_act_50 : decode b_Mo_act 50 = .ok (.iadd, 1) := by decide +kernel
theorem d_Mo_act_51 : decode b_Mo_act 51 = .ok (.putfield 112, 3) := by decide +kernel
theorem d_Mo_act_54 : decode b_Mo_act 54 = .ok (.aload_n 0, 1) := by decide +kernel
theorem d_Mo_act_55 : decode b_Mo_act 55 = .ok (.invokevirtual 95, 3) := by decide +kernel
theorem d_Mo_act_58 : decode b_Mo_act 58 = .ok (.aload_n 0, 1) := by decide +kernel
theorem d_Mo_act_59 : decode b_Mo_act 59 = .ok (.getfield 112, 3) := by decide +kernel
theorem d_Mo_act_62 : decode b_Mo_act 62 = .ok (.iconst 1, 1) := by decide +kernel
theorem d_Mo_act_63 : decode b_Mo_act 63 = .ok (.isub, 1) := by decide +kernel
theorem d_Mo_act_64 : decode b_Mo_act 64 = .ok (.ireturn, 1) := by decide +kernel
set_option maxRecDepth 100000 in
set_option maxHeartbeats 4000000 in
theorem S_Mo_act_0 {G : Gc} {M : Mc} {Q : State → Prop} {K : Option Value → Hp → Prop} (hG : gok G) (hM : mok G M r_Mo_act Q K) (v0 : Nat) (h : Hp) (F : kT h v0 = 12 ∧ (((kI h v0 3) = 12 → K (some (.int (-3))) h) ∧ (¬ (kI h v0 3) = 12 → (kT h v0 = 12 ∧ kR h v0 4 = some (rf h v0 4) ∧ (kT h v0 = 12 ∧ (kT h (rf h v0 4) = 50 ∧ vp_in (kI h v0 3) (kN h (rf h v0 4)) ∧ (∀ h1 : Hp, h1 = wI h (rf h v0 4) (Int32.toNatClampNeg (kI h v0 3)) 1 → (kT h1 v0 = 12 ∧ kR h1 v0 5 = some (rf h1 v0 5) ∧ (kT h1 v0 = 12 ∧ (kT h1 (rf h1 v0 5) = 50 ∧ vp_in (kI h1 v0 3) (kN h1 (rf h1 v0 5)) ∧ (∀ h2 : Hp, h2 = wI h1 (rf h1 v0 5) (Int32.toNatClampNeg (kI h1 v0 3)) 0 → (kT h2 v0 = 12 ∧ kR h2 v0 7 = some (rf h2 v0 7) ∧ (kT h2 v0 = 12 ∧ (kT h2 (rf h2 v0 7) = 50 ∧ vp_in (3 * (kI h2 v0 3)) (kN h2 (rf h2 v0 7)) ∧ (∀ h3 : Hp, h3 = wI h2 (rf h2 v0 7) (Int32.toNatClampNeg (3 * (kI h2 v0 3))) 0 → (kT h3 v0 = 12 ∧ (kT h3 v0 = 12 ∧ (∀ h4 : Hp, h4 = wI h3 v0 3 ((kI h3 v0 3) + 1) → (kT h4 v0 = 12 ∧ sem G r_Mo_forget [.ref v0] h4 (fun u6 h5 => u6 = none ∧ (kT h5 v0 = 12 ∧ K (some (.int ((kI h5 v0 3) - 1))) h5))))))))))))))))))))) : X G M Q 0 [(0, .ref v0)] [] h := by
  refine x_aload_n hM d_Mo_act_0 rfl 0 rfl ?_
  obtain ⟨c27, F⟩ := F
  refine x_geti hG hM ck_Mo 3 (Nat.le_of_ble_eq_true rfl) rfl rfl w_900 rfl d_Mo_act_1 c27 ?_
  refine x_bipush (v := 12) hM d_Mo_act_4 (by decide) ?_
  refine x_icmp_ne (tgt := 12) hM d_Mo_act_6 (by decide) (fun q26 => ?_) (fun q26 => ?_)
  · replace F := F.2 q26
    refine x_aload_n hM d_Mo_act_12 rfl 0 rfl ?_
    obtain ⟨c24, F⟩ := F
    obtain ⟨c25, F⟩ := F
    refine x_getr hG hM ck_Mo 4 (Nat.le_of_ble_eq_true rfl) rfl rfl w_901 rfl d_Mo_act_13 c24 c25 ?_
    refine x_aload_n hM d_Mo_act_16 rfl 0 rfl ?_
    obtain ⟨c23, F⟩ := F
    refine x_geti hG hM ck_Mo 3 (Nat.le_of_ble_eq_true rfl) rfl rfl w_900 rfl d_Mo_act_17 c23 ?_
    refine x_iconst (v := 1) hM d_Mo_act_20 (by decide) ?_
    obtain ⟨c21, F⟩ := F
    obtain ⟨c22, F⟩ := F
    obtain ⟨h1, eh1⟩ : ∃ z : Hp, z = wI h (rf h v0 4) (Int32.toNatClampNeg (kI h v0 3)) 1 := ⟨_, rfl⟩
    replace F := F h1 eh1
    refine x_iastore hG hM d_Mo_act_21 c21 c22 ?_
    rw [← eh1]
    clear eh1
    refine x_aload_n hM d_Mo_act_22 rfl 0 rfl ?_
    obtain ⟨c19, F⟩ := F
    obtain ⟨c20, F⟩ := F
    refine x_getr hG hM ck_Mo 5 (Nat.le_of_ble_eq_true rfl) rfl rfl w_902 rfl d_Mo_act_23 c19 c20 ?_
    refine x_aload_n hM d_Mo_act_26 rfl 0 rfl ?_
    obtain ⟨c18, F⟩ := F
    refine x_geti hG hM ck_Mo 3 (Nat.le_of_ble_eq_true rfl) rfl rfl w_900 rfl d_Mo_act_27 c18 ?_
    refine x_iconst (v := 0) hM d_Mo_act_30 (by decide) ?_
    obtain ⟨c16, F⟩ := F
    obtain ⟨c17, F⟩ := F
    obtain ⟨h2, eh2⟩ : ∃ z : Hp, z = wI h1 (rf h1 v0 5) (Int32.toNatClampNeg (kI h1 v0 3)) 0 := ⟨_, rfl⟩
    replace F := F h2 eh2
    refine x_iastore hG hM d_Mo_act_31 c16 c17 ?_
    rw [← eh2]
    clear eh2
    refine x_aload_n hM d_Mo_act_32 rfl 0 rfl ?_
    obtain ⟨c14, F⟩ := F
    obtain ⟨c15, F⟩ := F
    refine x_getr hG hM ck_Mo 7 (Nat.le_of_ble_eq_true rfl) rfl rfl w_904 rfl d_Mo_act_33 c14 c15 ?_
    refine x_iconst (v := 3) hM d_Mo_act_36 (by decide) ?_
    refine x_aload_n hM d_Mo_act_37 rfl 0 rfl ?_
    obtain ⟨c13, F⟩ := F
    refine x_geti hG hM ck_Mo 3 (Nat.le_of_ble_eq_true rfl) rfl rfl w_900 rfl d_Mo_act_38 c13 ?_
    refine x_imul hM d_Mo_act_41 ?_
    refine x_iconst (v := 0) hM d_Mo_act_42 (by decide) ?_
    obtain ⟨c11, F⟩ := F
    obtain ⟨c12, F⟩ := F
    obtain ⟨h3, eh3⟩ : ∃ z : Hp, z = wI h2 (rf h2 v0 7) (Int32.toNatClampNeg (3 * (kI h2 v0 3))) 0 := ⟨_, rfl⟩
    replace F := F h3 eh3
    refine x_iastore hG hM d_Mo_act_43 c11 c12 ?_
    rw [← eh3]
    clear eh3
    refine x_aload_n hM d_Mo_act_44 rfl 0 rfl ?_
    refine x_dup hM d_Mo_act_45 rfl ?_
    obtain ⟨c10, F⟩ := F
    refine x_geti hG hM ck_Mo 3 (Nat.le_of_ble_eq_true rfl) rfl rfl w_900 rfl d_Mo_act_46 c10 ?_
    refine x_iconst (v := 1) hM d_Mo_act_49 (by decide) ?_
    refine x_iadd hM d_Mo_act_50 ?_
    obtain ⟨c9, F⟩ := F
    obtain ⟨h4, eh4⟩ : ∃ z : Hp, z = wI h3 v0 3 ((kI h3 v0 3) + 1) := ⟨_, rfl⟩
    replace F := F h4 eh4
    refine x_puti hG hM ck_Mo 3 (Nat.le_of_ble_eq_true rfl) rfl rfl w_900 rfl d_Mo_act_51 (Or.inl rfl) c9 ?_
    rw [← eh4]
    clear eh4
    refine x_aload_n hM d_Mo_act_54 rfl 0 rfl ?_
    obtain ⟨c8, F⟩ := F
    refine x_callV hG hM (r' := r_Mo_forget) (ci := 11) [] rfl rfl (Nat.le_of_ble_eq_true rfl) yk_Mo_forget ⟨Nat.le_of_ble_eq_true rfl, Nat.le_of_ble_eq_true rfl⟩ w_893 w_895 ws_Mo_forget rfl rfl (Nat.le_of_ble_eq_true rfl) d_Mo_act_55 c8 (sem_mono F ?_)
    intro u6 h5 F
    obtain ⟨rfl, F⟩ := F
    refine x_aload_n hM d_Mo_act_58 rfl 0 rfl ?_
    obtain ⟨c7, F⟩ := F
    refine x_geti hG hM ck_Mo 3 (Nat.le_of_ble_eq_true rfl) rfl rfl w_900 rfl d_Mo_act_59 c7 ?_
    refine x_iconst (v := 1) hM d_Mo_act_62 (by decide) ?_
    refine x_isub hM d_Mo_act_63 ?_
    exact x_ireturn hM d_Mo_act_64 rfl F
  · replace F := F.1 q26
    refine x_bipush (v := (-3)) hM d_Mo_act_9 (by decide) ?_
    exact x_ireturn hM d_Mo_act_11 rfl F
theorem d_Mo_outcome_0 : decode b_Mo_outcome 0 = .ok (.aload_n 0, 1) := by decide +kernel
theorem d_Mo_outcome_1 : decode b_Mo_outcome 1 = .ok (.iload_n 1, 1) := by decide +kernel
theorem d_Mo_outcome_2 : decode b_Mo_outcome 2 = .ok (.invokevirtual 130, 3) := by decide +kernel
theorem d_Mo_outcome_5 : decode b_Mo_outcome 5 = .ok (.ifCond .ne 6, 3) := by decide +kernel
theorem d_Mo_outcome_8 : decode b_Mo_outcome 8 = .ok (.bipush (-2), 2) := by decide +kernel
theorem d_Mo_outcome_10 : decode b_Mo_outcome 10 = .ok (.ireturn, 1) := by decide +kernel
theorem d_Mo_outcome_11 : decode b_Mo_outcome 11 = .ok (.aload_n 0, 1) := by decide +kernel
theorem d_Mo_outcome_12 : decode b_Mo_outcome 12 = .ok (.getfield 13, 3) := by decide +kernel
theorem d_Mo_outcome_15 : decode b_Mo_outcome 15 = .ok (.iload_n 1, 1) := by decide +kernel
theorem d_Mo_outcome_16 : decode b_Mo_outcome 16 = .ok (.iaload, 1) := by decide +kernel
theorem d_Mo_outcome_17 : decode b_Mo_outcome 17 = .ok (.iconst 3, 1) := by decide +kernel
theorem d_Mo_outcome_18 : decode b_Mo_outcome 18 = .ok (.if_icmp .ne 6, 3) := by decide +kernel
theorem d_Mo_outcome_21 : decode b_Mo_outcome 21 = .ok (.bipush (-3), 2) := by decide +kernel
theorem d_Mo_outcome_23 : decode b_Mo_outcome 23 = .ok (.ireturn, 1) := by decide +kernel
theorem d_Mo_outcome_24 : decode b_Mo_outcome 24 = .ok (.aload_n 0, 1) := by decide +kernel
theorem d_Mo_outcome_25 : decode b_Mo_outcome 25 = .ok (.getfield 22, 3) := by decide +kernel
theorem d_Mo_outcome_28 : decode b_Mo_outcome 28 = .ok (.iconst 3, 1) := by decide +kernel
theorem d_Mo_outcome_29 : decode b_Mo_outcome 29 = .ok (.iload_n 1, 1) := by decide +kernel
theorem d_Mo_outcome_30 : decode b_Mo_outcome 30 = .ok (.imul, 1) := by decide +kernel
theorem d_Mo_outcome_31 : decode b_Mo_outcome 31 = .ok (.aload_n 0, 1) := by decide +kernel
theorem d_Mo_outcome_32 : decode b_Mo_outcome 32 = .ok (.getfield 13, 3) := by decide +kernel
theorem d_Mo_outcome_35 : decode b_Mo_outcome 35 = .ok (.iload_n 1, 1) := by decide +kernel
theorem d_Mo_outcome_36 : decode b_Mo_outcome 36 = .ok (.iaload, 1) := by decide +kernel
theorem d_Mo_outcome_37 : decode b_Mo_outcome 37 = .ok (.iadd, 1) := by decide +kernel
theorem d_Mo_outcome_38 : decode b_Mo_outcome 38 = .ok (.iconst 0, 1) := by decide +kernel
theorem d_Mo_outcome_39 : decode b_Mo_outcome 39 = .ok (.iastore, 1) := by decide +kernel
theorem d_Mo_outcome_40 : decode b_Mo_outcome 40 = .ok (.aload_n 0, 1) := by decide +kernel
theorem d_Mo_outcome_41 : decode b_Mo_outcome 41 = .ok (.getfield 13, 3) := by decide +kernel
theorem d_Mo_outcome_44 : decode b_Mo_outcome 44 = .ok (.iload_n 1, 1) := by decide +kernel
theorem d_Mo_outcome_45 : decode b_Mo_outcome 45 = .ok (.dup2, 1) := by decide +kernel
theorem d_Mo_outcome_46 : decode b_Mo_outcome 46 = .ok (.iaload, 1) := by decide +kernel
theorem d_Mo_outcome_47 : decode b_Mo_outcome 47 = .ok (.iconst 1, 1) := by decide +kernel
theorem d_Mo_outcome_48 : decode b_Mo_outcome 48 = .ok (.iadd, 1) := by decide +kernel
theorem d_Mo_outcome_49 : decode b_Mo_outcome 49 = .ok (.iastore, 1) := by decide +kernel
theorem d_Mo_outcome_50 : decode b_Mo_outcome 50 = .ok (.aload_n 0, 1) := by decide +kernel
theorem d_Mo_outcome_51 : decode b_Mo_outcome 51 = .ok (.invokevirtual 95, 3) := by decide +kernel
theorem d_Mo_outcome_54 : decode b_Mo_outcome 54 = .ok (.aload_n 0, 1) := by decide +kernel
theorem d_Mo_outcome_55 : decode b_Mo_outcome 55 = .ok (.getfield 13, 3) := by decide +kernel
theorem d_Mo_outcome_58 : decode b_Mo_outcome 58 = .ok (.iload_n 1, 1) := by decide +kernel
theorem d_Mo_outcome_59 : decode b_Mo_outcome 59 = .ok (.iaload, 1) := by decide +kernel
theorem d_Mo_outcome_60 : decode b_Mo_outcome 60 = .ok (.iconst 1, 1) := by decide +kernel
theorem d_Mo_outcome_61 : decode b_Mo_outcome 61 = .ok (.isub, 1) := by decide +kernel
theorem d_Mo_outcome_62 : decode b_Mo_outcome 62 = .ok (.ireturn, 1) := by decide +kernel
set_option maxRecDepth 100000 in
set_option maxHeartbeats 4000000 in
theorem S_Mo_outcome_0 {G : Gc} {M : Mc} {Q : State → Prop} {K : Option Value → Hp → Prop} (hG : gok G) (hM : mok G M r_Mo_outcome Q K) (v0 : Nat) (v1 : Int32) (h : Hp) (F : kT h v0 = 12 ∧ sem G r_Mo_isAct [.ref v0, .int v1] h (fun u2 h1 => ∃ x3 : Int32, u2 = some (.int x3) ∧ ((x3 = 0 → K (some (.int (-2))) h1) ∧ (¬ x3 = 0 → (kT h1 v0 = 12 ∧ kR h1 v0 4 = some (rf h1 v0 4) ∧ (kT h1 (rf h1 v0 4) = 50 ∧ vp_in v1 (kN h1 (rf h1 v0 4)) ∧ (((kI h1 (rf h1 v0 4) (Int32.toNatClampNeg v1)) = 3 → K (some (.int (-3))) h1) ∧ (¬ (kI h1 (rf h1 v0 4) (Int32.toNatClampNeg v1)) = 3 → (kT h1 v0 = 12 ∧ kR h1 v0 7 = some (rf h1 v0 7) ∧ (kT h1 v0 = 12 ∧ kR h1 v0 4 = some (rf h1 v0 4) ∧ (kT h1 (rf h1 v0 4) = 50 ∧ vp_in v1 (kN h1 (rf h1 v0 4)) ∧ (kT h1 (rf h1 v0 7) = 50 ∧ vp_in ((3 * v1) + (kI h1 (rf h1 v0 4) (Int32.toNatClampNeg v1))) (kN h1 (rf h1 v0 7)) ∧ (∀ h4 : Hp, h4 = wI h1 (rf h1 v0 7) (Int32.toNatClampNeg ((3 * v1) + (kI h1 (rf h1 v0 4) (Int32.toNatClampNeg v1)))) 0 → (kT h4 v0 = 12 ∧ kR h4 v0 4 = some (rf h4 v0 4) ∧ (kT h4 (rf h4 v0 4) = 50 ∧ vp_in v1 (kN h4 (rf h4 v0 4)) ∧ (kT h4 (rf h4 v0 4) = 50 ∧ vp_in v1 (kN h4 (rf h4 v0 4)) ∧ (∀ h5 : Hp, h5 = wI h4 (rf h4 v0 4) (Int32.toNatClampNeg v1) ((kI h4 (rf h4 v0 4) (Int32.toNatClampNeg v1)) + 1) → (kT h5 v0 = 12 ∧ sem G r_Mo_forget [.ref v0] h5 (fun u7 h6 => u7 = none ∧ (kT h6 v0 = 12 ∧ kR h6 v0 4 = some (rf h6 v0 4) ∧ (kT h6 (rf h6 v0 4) = 50 ∧ vp_in v1 (kN h6 (rf h6 v0 4)) ∧ K (some (.int ((kI h6 (rf h6 v0 4) (Int32.toNatClampNeg v1)) - 1))) h6))))))))))))))))))))) : X G M Q 0 [(0, .ref v0), (1, .int v1)] [] h := by
  refine x_aload_n hM d_Mo_outcome_0 rfl 0 rfl ?_
  refine x_iload_n hM d_Mo_outcome_1 rfl 1 rfl ?_
  obtain ⟨c33, F⟩ := F
  refine x_callV hG hM (r' := r_Mo_isAct) (ci := 11) [.int v1] rfl rfl (Nat.le_of_ble_eq_true rfl) yk_Mo_isAct ⟨Nat.le_of_ble_eq_true rfl, Nat.le_of_ble_eq_true rfl⟩ w_1040 w_1042 ws_Mo_isAct rfl rfl (Nat.le_of_ble_eq_true rfl) d_Mo_outcome_2 c33 (sem_mono F ?_)
  intro u2 h1 F
  obtain ⟨x3, rfl, F⟩ := F
  refine x_if_ne (tgt := 11) hM d_Mo_outcome_5 (by decide) (fun q32 => ?_) (fun q32 => ?_)
  · replace F := F.2 q32
    refine x_aload_n hM d_Mo_outcome_11 rfl 0 rfl ?_
    obtain ⟨c30, F⟩ := F
    obtain ⟨c31, F⟩ := F
    refine x_getr hG hM ck_Mo 4 (Nat.le_of_ble_eq_true rfl) rfl rfl w_901 rfl d_Mo_outcome_12 c30 c31 ?_
    refine x_iload_n hM d_Mo_outcome_15 rfl 1 rfl ?_
    obtain ⟨c28, F⟩ := F
    obtain ⟨c29, F⟩ := F
    refine x_iaload hG hM d_Mo_outcome_16 c28 c29 ?_
    refine x_iconst (v := 3) hM d_Mo_outcome_17 (by decide) ?_
    refine x_icmp_ne (tgt := 24) hM d_Mo_outcome_18 (by decide) (fun q27 => ?_) (fun q27 => ?_)
    · replace F := F.2 q27
      refine x_aload_n hM d_Mo_outcome_24 rfl 0 rfl ?_
      obtain ⟨c25, F⟩ := F
      obtain ⟨c26, F⟩ := F
      refine x_getr hG hM ck_Mo 7 (Nat.le_of_ble_eq_true rfl) rfl rfl w_904 rfl d_Mo_outcome_25 c25 c26 ?_
      refine x_iconst (v := 3) hM d_Mo_outcome_28 (by decide) ?_
      refine x_iload_n hM d_Mo_outcome_29 rfl 1 rfl ?_
      refine x_imul hM d_Mo_outcome_30 ?_
      refine x_aload_n hM d_Mo_outcome_31 rfl 0 rfl ?_
      obtain ⟨c23, F⟩ := F
      obtain ⟨c24, F⟩ := F
      refine x_getr hG hM ck_Mo 4 (Nat.le_of_ble_eq_true rfl) rfl rfl w_901 rfl d_Mo_outcome_32 c23 c24 ?_
      refine x_iload_n hM d_Mo_outcome_35 rfl 1 rfl ?_
      obtain ⟨c21, F⟩ := F
      obtain ⟨c22, F⟩ := F
      refine x_iaload hG hM d_Mo_outcome_36 c21 c22 ?_
      refine x_iadd hM d_Mo_outcome_37 ?_
      refine x_iconst (v := 0) hM d_Mo_outcome_38 (by decide) ?_
      obtain ⟨c19, F⟩ := F
      obtain ⟨c20, F⟩ := F
      obtain ⟨h4, eh4⟩ : ∃ z : Hp, z = wI h1 (rf h1 v0 7) (Int32.toNatClampNeg ((3 * v1) + (kI h1 (rf h1 v0 4) (Int32.toNatClampNeg v1)))) 0 := ⟨_, rfl⟩
      replace F := F h4 eh4
      refine x_iastore hG hM d_Mo_outcome_39 c19 c20 ?_
      rw [← eh4]
      clear eh4
      refine x_aload_n hM d_Mo_outcome_40 rfl 0 rfl ?_
      obtain ⟨c17, F⟩ := F
      obtain ⟨c18, F⟩ := F
      refine x_getr hG hM ck_Mo 4 (Nat.le_of_ble_eq_true rfl) rfl rfl w_901 rfl d_Mo_outcome_41 c17 c18 ?_
      refine x_iload_n hM d_Mo_outcome_44 rfl 1 rfl ?_
      refine x_dup2 hM d_Mo_outcome_45 rfl rfl ?_
      obtain ⟨c15, F⟩ := F
      obtain ⟨c16, F⟩ := F
      refine x_iaload hG hM d_Mo_outcome_46 c15 c16 ?_
      refine x_iconst (v := 1) hM d_Mo_outcome_47 (by decide) ?_
      refine x_iadd hM d_Mo_outcome_48 ?_
      obtain ⟨c13, F⟩ := F
      obtain ⟨c14, F⟩ := F
      obtain ⟨h5, eh5⟩ : ∃ z : Hp, z = wI h4 (rf h4 v0 4) (Int32.toNatClampNeg v1) ((kI h4 (rf h4 v0 4) (Int32.toNatClampNeg v1)) + 1) := ⟨_, rfl⟩
      replace F := F h5 eh5
      refine x_iastore hG hM d_Mo_outcome_49 c13 c14 ?_
      rw [← eh5]
      clear eh5
      refine x_aload_n hM d_Mo_outcome_50 rfl 0 rfl ?_
      obtain ⟨c12, F⟩ := F
      refine x_callV hG hM (r' := r_Mo_forget) (ci := 11) [] rfl rfl (Nat.le_of_ble_eq_true rfl) yk_Mo_forget ⟨Nat.le_of_ble_eq_true rfl, Nat.le_of_ble_eq_true rfl⟩ w_893 w_895 ws_Mo_forget rfl rfl (Nat.le_of_ble_eq_true rfl) d_Mo_outcome_51 c12 (sem_mono F ?_)
      intro u7 h6 F
      obtain ⟨rfl, F⟩ := F
      refine x_aload_n hM d_Mo_outcome_54 rfl 0 rfl ?_
      obtain ⟨c10, F⟩ := F
      obtain ⟨c11, F⟩ := F
      refine x_getr hG hM ck_Mo 4 (Nat.le_of_ble_eq_true rfl) rfl rfl w_901 rfl d_Mo_outcome_55 c10 c11 ?_
      refine x_iload_n hM d_Mo_outcome_58 rfl 1 rfl ?_
      obtain ⟨c8, F⟩ := F
      obtain ⟨c9, F⟩ := F
      refine x_iaload hG hM d_Mo_outcome_59 c8 c9 ?_
      refine x_iconst (v := 1) hM d_Mo_outcome_60 (by decide) ?_
      refine x_isub hM d_Mo_outcome_61 ?_
      exact x_ireturn hM d_Mo_outcome_62 rfl F
    · replace F := F.1 q27
      refine x_bipush (v := (-3)) hM d_Mo_outcome_21 (by decide) ?_
      exact x_ireturn hM d_Mo_outcome_23 rfl F
  · replace F := F.1 q32
    refine x_bipush (v := (-2)) hM d_Mo_outcome_8 (by decide) ?_
    exact x_ireturn hM d_Mo_outcome_10 rfl F
theorem d_Mo_isAct_0 : decode b_Mo_isAct 0 = .ok (.iload_n 1, 1) := by decide +kernel
theorem d_Mo_isAct_1 : decode b_Mo_isAct 1 = .ok (.iconst 0, 1) := by decide +kernel
theorem d_Mo_isAct_2 : decode b_Mo_isAct 2 = .ok (.aload_n 0, 1) := by decide +kernel
theorem d_Mo_isAct_3 : decode b_Mo_isAct 3 = .ok (.getfield 112, 3) := by decide +kernel
theorem d_Mo_isAct_6 : decode b_Mo_isAct 6 = .ok (.iconst 1, 1) := by decide +kernel
theorem d_Mo_isAct_7 : decode b_Mo_isAct 7 = .ok (.isub, 1) := by decide +kernel
theorem d_Mo_isAct_8 : decode b_Mo_isAct 8 = .ok (.invokestatic 118, 3) := by decide +kernel
theorem d_Mo_isAct_11 : decode b_Mo_isAct 11 = .ok (.ireturn, 1) := by decide +kernel
set_option maxRecDepth 100000 in
set_option maxHeartbeats 4000000 in
theorem S_Mo_isAct_0 {G : Gc} {M : Mc} {Q : State → Prop} {K : Option Value → Hp → Prop} (hG : gok G) (hM : mok G M r_Mo_isAct Q K) (v0 : Nat) (v1 : Int32) (h : Hp) (F : kT h v0 = 12 ∧ (sem G r_Mo_isIn [.int v1, .int 0, .int ((kI h v0 3) - 1)] h (fun u2 h1 => ∃ x3 : Int32, u2 = some (.int x3) ∧ (nb x3 ∧ K (some (.int x3)) h1)))) : X G M Q 0 [(0, .ref v0), (1, .int v1)] [] h := by
  refine x_iload_n hM d_Mo_isAct_0 rfl 1 rfl ?_
  refine x_iconst (v := 0) hM d_Mo_isAct_1 (by decide) ?_
  refine x_aload_n hM d_Mo_isAct_2 rfl 0 rfl ?_
  obtain ⟨c4, F⟩ := F
  refine x_geti hG hM ck_Mo 3 (Nat.le_of_ble_eq_true rfl) rfl rfl w_900 rfl d_Mo_isAct_3 c4 ?_
  refine x_iconst (v := 1) hM d_Mo_isAct_6 (by decide) ?_
  refine x_isub hM d_Mo_isAct_7 ?_
  refine x_callS hG hM (r' := r_Mo_isIn) [.int v1, .int 0, .int ((kI h v0 3) - 1)] rfl yk_Mo_isIn ⟨Nat.le_of_ble_eq_true rfl, Nat.le_of_ble_eq_true rfl⟩ w_1017 w_1018 rfl rfl (Nat.le_of_ble_eq_true rfl) d_Mo_isAct_8 (sem_mono F ?_)
  intro u2 h1 F
  obtain ⟨x3, rfl, F⟩ := F
  exact x_zreturn hM d_Mo_isAct_11 rfl F.1 F.2
theorem d_Mo_when_0 : decode b_Mo_when 0 = .ok (.aload_n 0, 1) := by decide +kernel
theorem d_Mo_when_1 : decode b_Mo_when 1 = .ok (.iload_n 1, 1) := by decide +kernel
theorem d_Mo_when_2 : decode b_Mo_when 2 = .ok (.invokevirtual 130, 3) := by decide +kernel
theorem d_Mo_when_5 : decode b_Mo_when 5 = .ok (.ifCond .eq 26, 3) := by decide +kernel
theorem d_Mo_when_8 : decode b_Mo_when 8 = .ok (.aload_n 0, 1) := by decide +kernel
theorem d_Mo_when_9 : decode b_Mo_when 9 = .ok (.iload_n 2, 1) := by decide +kernel
theorem d_Mo_when_10 : decode b_Mo_when 10 = .ok (.iload_n 3, 1) := by decide +kernel
theorem d_Mo_when_11 : decode b_Mo_when 11 = .ok (.iload 4, 2) := by decide +kernel
theorem d_Mo_when_13 : decode b_Mo_when 13 = .ok (.invokevirtual 136, 3) := by decide +kernel
theorem d_Mo_when_16 : decode b_Mo_when 16 = .ok (.ifCond .eq 15, 3) := by decide +kernel
theorem d_Mo_when_19 : decode b_Mo_when 19 = .ok (.aload_n 0, 1) := by decide +kernel
theorem d_Mo_when_20 : decode b_Mo_when 20 = .ok (.iload_n 1, 1) := by decide +kernel
theorem d_Mo_when_21 : decode b_Mo_when 21 = .ok (.iload_n 2, 1) := by decide +kernel
theorem d_Mo_when_22 : decode b_Mo_when 22 = .ok (.iload_n 3, 1) := by decide +kernel
theorem d_Mo_when_23 : decode b_Mo_when 23 = .ok (.iload 4, 2) := by decide +kernel
theorem d_Mo_when_25 : decode b_Mo_when 25 = .ok (.invokevirtual 139, 3) := by decide +kernel
theorem d_Mo_when_28 : decode b_Mo_when 28 = .ok (.goto 5, 3) := by decide +kernel
theorem d_Mo_when_31 : decode b_Mo_when 31 = .ok (.bipush (-2), 2) := by decide +kernel
theorem d_Mo_when_33 : decode b_Mo_when 33 = .ok (.ireturn, 1) := by decide +kernel
set_option maxRecDepth 100000 in
set_option maxHeartbeats 4000000 in
theorem S_Mo_when_0 {G : Gc} {M : Mc} {Q : State → Prop} {K : Option Value → Hp → Prop} (hG : gok G) (hM : mok G M r_Mo_when Q K) (v0 : Nat) (v1 : Int32) (v2 : Int32) (v3 : Int32) (v4 : Int32) (h : Hp) (F : kT h v0 = 12 ∧ sem G r_Mo_isAct [.ref v0, .int v1] h (fun u2 h1 => ∃ x3 : Int32, u2 = some (.int x3) ∧ ((x3 = 0 → K (some (.int (-2))) h1) ∧ (¬ x3 = 0 → (kT h1 v0 = 12 ∧ sem G r_Mo_isCondition [.ref v0, .int v2, .int v3, .int v4] h1 (fun u5 h4 => ∃ x6 : Int32, u5 = some (.int x6) ∧ ((x6 = 0 → K (some (.int (-2))) h4) ∧ (¬ x6 = 0 → (kT h4 v0 = 12 ∧ sem G r_Mo_more [.ref v0, .int v1, .int v2, .int v3, .int v4] h4 (fun u8 h7 => ∃ x9 : Int32, u8 = some (.int x9) ∧ K (some (.int x9)) h7)))))))))) : X G M Q 0 [(0, .ref v0), (1, .int v1), (2, .int v2), (3, .int v3), (4, .int v4)] [] h := by
  refine x_aload_n hM d_Mo_when_0 rfl 0 rfl ?_
  refine x_iload_n hM d_Mo_when_1 rfl 1 rfl ?_
  obtain ⟨c14, F⟩ := F
  refine x_callV hG hM (r' := r_Mo_isAct) (ci := 11) [.int v1] rfl rfl (Nat.le_of_ble_eq_true rfl) yk_Mo_isAct ⟨Nat.le_of_ble_eq_true rfl, Nat.le_of_ble_eq_true rfl⟩ w_1040 w_1042 ws_Mo_isAct rfl rfl (Nat.le_of_ble_eq_true rfl) d_Mo_when_2 c14 (sem_mono F ?_)
  intro u2 h1 F
  obtain ⟨x3, rfl, F⟩ := F
  refine x_if_eq (tgt := 31) hM d_Mo_when_5 (by decide) (fun q13 => ?_) (fun q13 => ?_)
  · replace F := F.1 q13
    refine x_bipush (v := (-2)) hM d_Mo_when_31 (by decide) ?_
    exact x_ireturn hM d_Mo_when_33 rfl F
  · replace F := F.2 q13
    refine x_aload_n hM d_Mo_when_8 rfl 0 rfl ?_
    refine x_iload_n hM d_Mo_when_9 rfl 2 rfl ?_
    refine x_iload_n hM d_Mo_when_10 rfl 3 rfl ?_
    refine x_iload hM d_Mo_when_11 4 rfl ?_
    obtain ⟨c12, F⟩ := F
    refine x_callV hG hM (r' := r_Mo_isCondition) (ci := 11) [.int v2, .int v3, .int v4] rfl rfl (Nat.le_of_ble_eq_true rfl) yk_Mo_isCondition ⟨Nat.le_of_ble_eq_true rfl, Nat.le_of_ble_eq_true rfl⟩ w_1048 w_1050 ws_Mo_isCondition rfl rfl (Nat.le_of_ble_eq_true rfl) d_Mo_when_13 c12 (sem_mono F ?_)
    intro u5 h4 F
    obtain ⟨x6, rfl, F⟩ := F
    refine x_if_eq (tgt := 31) hM d_Mo_when_16 (by decide) (fun q11 => ?_) (fun q11 => ?_)
    · replace F := F.1 q11
      refine x_bipush (v := (-2)) hM d_Mo_when_31 (by decide) ?_
      exact x_ireturn hM d_Mo_when_33 rfl F
    · replace F := F.2 q11
      refine x_aload_n hM d_Mo_when_19 rfl 0 rfl ?_
      refine x_iload_n hM d_Mo_when_20 rfl 1 rfl ?_
      refine x_iload_n hM d_Mo_when_21 rfl 2 rfl ?_
      refine x_iload_n hM d_Mo_when_22 rfl 3 rfl ?_
      refine x_iload hM d_Mo_when_23 4 rfl ?_
      obtain ⟨c10, F⟩ := F
      refine x_callV hG hM (r' := r_Mo_more) (ci := 11) [.int v1, .int v2, .int v3, .int v4] rfl rfl (Nat.le_of_ble_eq_true rfl) yk_Mo_more ⟨Nat.le_of_ble_eq_true rfl, Nat.le_of_ble_eq_true rfl⟩ w_1056 w_1058 ws_Mo_more rfl rfl (Nat.le_of_ble_eq_true rfl) d_Mo_when_25 c10 (sem_mono F ?_)
      intro u8 h7 F
      obtain ⟨x9, rfl, F⟩ := F
      refine x_goto (tgt := 33) hM d_Mo_when_28 (by decide) ?_
      exact x_ireturn hM d_Mo_when_33 rfl F
theorem d_Mo_isCondition_0 : decode b_Mo_isCondition 0 = .ok (.aload_n 0, 1) := by decide +kernel
theorem d_Mo_isCondition_1 : decode b_Mo_isCondition 1 = .ok (.iload_n 1, 1) := by decide +kernel
theorem d_Mo_isCondition_2 : decode b_Mo_isCondition 2 = .ok (.invokevirtual 133, 3) := by decide +kernel
theorem d_Mo_isCondition_5 : decode b_Mo_isCondition 5 = .ok (.ifCond .eq 41, 3) := by decide +kernel
theorem d_Mo_isCondition_8 : decode b_Mo_isCondition 8 = .ok (.iload_n 2, 1) := by decide +kernel
theorem d_Mo_isCondition_9 : decode b_Mo_isCondition 9 = .ok (.iconst 0, 1) := by decide +kernel
theorem d_Mo_isCondition_10 : decode b_Mo_isCondition 10 = .ok (.iconst 3, 1) := by decide +kernel
theorem d_Mo_isCondition_11 : decode b_Mo_isCondition 11 = .ok (.invokestatic 118, 3) := by decide +kernel
theorem d_Mo_isCondition_14 : decode b_Mo_isCondition 14 = .ok (.ifCond .eq 32, 3) := by decide +kernel
theorem d_Mo_isCondition_17 : decode b_Mo_isCondition 17 = .ok (.iload_n 2, 1) := by decide +kernel
theorem d_Mo_isCondition_18 : decode b_Mo_isCondition 18 = .ok (.iconst 2, 1) := by decide +kernel
theorem d_Mo_isCondition_19 : decode b_Mo_isCondition 19 = .ok (.if_icmp .ne 14, 3) := by decide +kernel
theorem d_Mo_isCondition_22 : decode b_Mo_isCondition 22 = .ok (.aload_n 0, 1) := by decide +kernel
theorem d_Mo_isCondition_23 : decode b_Mo_isCondition 23 = .ok (.iload_n 3, 1) := by decide +kernel
theorem d_Mo_isCondition_24 : decode b_Mo_isCondition 24 = .ok (.invokevirtual 133, 3) := by decide +kernel
theorem d_Mo_isCondition_27 : decode b_Mo_isCondition 27 = .ok (.ifCond .eq 19, 3) := by decide +kernel
theorem d_Mo_isCondition_30 : decode b_Mo_isCondition 30 = .ok (.goto 12, 3) := by decide +kernel
theorem d_Mo_isCondition_33 : decode b_Mo_isCondition 33 = .ok (.iload_n 3, 1) := by decide +kernel
theorem d_Mo_isCondition_34 : decode b_Mo_isCondition 34 = .ok (.iconst 0, 1) := by decide +kernel
theorem d_Mo_isCondition_35 : decode b_Mo_isCondition 35 = .ok (.iconst 3, 1) := by decide +kernel
theorem d_Mo_isCondition_36 : decode b_Mo_isCondition 36 = .ok (.invokestatic 118, 3) := by decide +kernel
theorem d_Mo_isCondition_39 : decode b_Mo_isCondition 39 = .ok (.ifCond .eq 7, 3) := by decide +kernel
theorem d_Mo_isCondition_42 : decode b_Mo_isCondition 42 = .ok (.iconst 1, 1) := by decide +kernel
theorem d_Mo_isCondition_43 : decode b_Mo_isCondition 43 = .ok (.goto 4, 3) := by decide +kernel
theorem d_Mo_isCondition_46 : decode b_Mo_isCondition 46 = .ok (.iconst 0, 1) := by decide +kernel
theorem d_Mo_isCondition_47 : decode b_Mo_isCondition 47 = .ok (.ireturn, 1) := by decide +kernel
set_option maxRecDepth 100000 in
set_option maxHeartbeats 4000000 in
theorem S_Mo_isCondition_0 {G : Gc} {M : Mc} {Q : State → Prop} {K : Option Value → Hp → Prop} (hG : gok G) (hM : mok G M r_Mo_isCondition Q K) (v0 : Nat) (v1 : Int32) (v2 : Int32) (v3 : Int32) (h : Hp) (F : kT h v0 = 12 ∧ sem G r_Mo_isThing [.ref v0, .int v1] h (fun u2 h1 => ∃ x3 : Int32, u2 = some (.int x3) ∧ ((x3 = 0 → K (some (.int 0)) h1) ∧ (¬ x3 = 0 → (sem G r_Mo_isIn [.int v2, .int 0, .int 3] h1 (fun u5 h4 => ∃ x6 : Int32, u5 = some (.int x6) ∧ ((x6 = 0 → K (some (.int 0)) h4) ∧ (¬ x6 = 0 → ((v2 = 2 → (kT h4 v0 = 12 ∧ sem G r_Mo_isThing [.ref v0, .int v3] h4 (fun u13 h12 => ∃ x14 : Int32, u13 = some (.int x14) ∧ (∀ z15 : Int32, z15 = (if x14 = 0 then 0 else 1) → (nb z15 ∧ K (some (.int z15)) h12))))) ∧ (¬ v2 = 2 → (sem G r_Mo_isIn [.int v3, .int 0, .int 3] h4 (fun u8 h7 => ∃ x9 : Int32, u8 = some (.int x9) ∧ (∀ z10 : Int32, z10 = (if x9 = 0 then 0 else 1) → (nb z10 ∧ K (some (.int z10)) h7)))))))))))))) : X G M Q 0 [(0, .ref v0), (1, .int v1), (2, .int v2), (3, .int v3)] [] h := by
  refine x_aload_n hM d_Mo_isCondition_0 rfl 0 rfl ?_
  refine x_iload_n hM d_Mo_isCondition_1 rfl 1 rfl ?_
  obtain ⟨c21, F⟩ := F
  refine x_callV hG hM (r' := r_Mo_isThing) (ci := 11) [.int v1] rfl rfl (Nat.le_of_ble_eq_true rfl) yk_Mo_isThing ⟨Nat.le_of_ble_eq_true rfl, Nat.le_of_ble_eq_true rfl⟩ w_1052 w_1054 ws_Mo_isThing rfl rfl (Nat.le_of_ble_eq_true rfl) d_Mo_isCondition_2 c21 (sem_mono F ?_)
  intro u2 h1 F
  obtain ⟨x3, rfl, F⟩ := F
  refine x_if_eq (tgt := 46) hM d_Mo_isCondition_5 (by decide) (fun q20 => ?_) (fun q20 => ?_)
  · replace F := F.1 q20
    refine x_iconst (v := 0) hM d_Mo_isCondition_46 (by decide) ?_
    exact x_zreturn hM d_Mo_isCondition_47 rfl (Or.inl rfl) F
  · replace F := F.2 q20
    refine x_iload_n hM d_Mo_isCondition_8 rfl 2 rfl ?_
    refine x_iconst (v := 0) hM d_Mo_isCondition_9 (by decide) ?_
    refine x_iconst (v := 3) hM d_Mo_isCondition_10 (by decide) ?_
    refine x_callS hG hM (r' := r_Mo_isIn) [.int v2, .int 0, .int 3] rfl yk_Mo_isIn ⟨Nat.le_of_ble_eq_true rfl, Nat.le_of_ble_eq_true rfl⟩ w_1017 w_1018 rfl rfl (Nat.le_of_ble_eq_true rfl) d_Mo_isCondition_11 (sem_mono F ?_)
    intro u5 h4 F
    obtain ⟨x6, rfl, F⟩ := F
    refine x_if_eq (tgt := 46) hM d_Mo_isCondition_14 (by decide) (fun q19 => ?_) (fun q19 => ?_)
    · replace F := F.1 q19
      refine x_iconst (v := 0) hM d_Mo_isCondition_46 (by decide) ?_
      exact x_zreturn hM d_Mo_isCondition_47 rfl (Or.inl rfl) F
    · replace F := F.2 q19
      refine x_iload_n hM d_Mo_isCondition_17 rfl 2 rfl ?_
      refine x_iconst (v := 2) hM d_Mo_isCondition_18 (by decide) ?_
      refine x_icmp_ne (tgt := 33) hM d_Mo_isCondition_19 (by decide) (fun q18 => ?_) (fun q18 => ?_)
      · replace F := F.2 q18
        refine x_iload_n hM d_Mo_isCondition_33 rfl 3 rfl ?_
        refine x_iconst (v := 0) hM d_Mo_isCondition_34 (by decide) ?_
        refine x_iconst (v := 3) hM d_Mo_isCondition_35 (by decide) ?_
        refine x_callS hG hM (r' := r_Mo_isIn) [.int v3, .int 0, .int 3] rfl yk_Mo_isIn ⟨Nat.le_of_ble_eq_true rfl, Nat.le_of_ble_eq_true rfl⟩ w_1017 w_1018 rfl rfl (Nat.le_of_ble_eq_true rfl) d_Mo_isCondition_36 (sem_mono F ?_)
        intro u8 h7 F
        obtain ⟨x9, rfl, F⟩ := F
        have JJ : ∀ (z10 : Int32) (ez10 : z10 = (if x9 = 0 then 0 else 1)), X G M Q 47 [] [.int z10] h7 := by
          intro z10 ez10
          replace F := F _ ez10
          exact x_zreturn hM d_Mo_isCondition_47 rfl F.1 F.2
        refine x_if_eq (tgt := 46) hM d_Mo_isCondition_39 (by decide) (fun q11 => ?_) (fun q11 => ?_)
        · refine x_iconst (v := 0) hM d_Mo_isCondition_46 (by decide) ?_
          refine x_sub [] rfl ?_
          exact JJ _ (Eq.symm (if_pos q11))
        · refine x_iconst (v := 1) hM d_Mo_isCondition_42 (by decide) ?_
          refine x_goto (tgt := 47) hM d_Mo_isCondition_43 (by decide) ?_
          refine x_sub [] rfl ?_
          exact JJ _ (Eq.symm (if_neg q11))
      · replace F := F.1 q18
        refine x_aload_n hM d_Mo_isCondition_22 rfl 0 rfl ?_
        refine x_iload_n hM d_Mo_isCondition_23 rfl 3 rfl ?_
        obtain ⟨c17, F⟩ := F
        refine x_callV hG hM (r' := r_Mo_isThing) (ci := 11) [.int v3] rfl rfl (Nat.le_of_ble_eq_true rfl) yk_Mo_isThing ⟨Nat.le_of_ble_eq_true rfl, Nat.le_of_ble_eq_true rfl⟩ w_1052 w_1054 ws_Mo_isThing rfl rfl (Nat.le_of_ble_eq_true rfl) d_Mo_isCondition_24 c17 (sem_mono F ?_)
        intro u13 h12 F
        obtain ⟨x14, rfl, F⟩ := F
        have JJ : ∀ (z15 : Int32) (ez15 : z15 = (if x14 = 0 then 0 else 1)), X G M Q 47 [] [.int z15] h12 := by
          intro z15 ez15
          replace F := F _ ez15
          exact x_zreturn hM d_Mo_isCondition_47 rfl F.1 F.2
        refine x_if_eq (tgt := 46) hM d_Mo_isCondition_27 (by decide) (fun q16 => ?_) (fun q16 => ?_)
        · refine x_iconst (v := 0) hM d_Mo_isCondition_46 (by decide) ?_
          refine x_sub [] rfl ?_
          exact JJ _ (Eq.symm (if_pos q16))
        · refine x_goto (tgt := 42) hM d_Mo_isCondition_30 (by decide) ?_
          refine x_iconst (v := 1) hM d_Mo_isCondition_42 (by decide) ?_
          refine x_goto (tgt := 47) hM d_Mo_isCondition_43 (by decide) ?_
          refine x_sub [] rfl ?_
          exact JJ _ (Eq.symm (if_neg q16))
theorem d_Mo_isThing_0 : decode b_Mo_isThing 0 = .ok (.iload_n 1, 1) := by decide +kernel
theorem d_Mo_isThing_1 : decode b_Mo_isThing 1 = .ok (.iconst 0, 1) := by decide +kernel
theorem d_Mo_isThing_2 : decode b_Mo_isThing 2 = .ok (.aload_n 0, 1) := by decide +kernel
theorem d_Mo_isThing_3 : decode b_Mo_isThing 3 = .ok (.getfield 105, 3) := by decide +kernel
theorem d_Mo_isThing_6 : decode b_Mo_isThing 6 = .ok (.iconst 1, 1) := by decide +kernel
theorem d_Mo_isThing_7 : decode b_Mo_isThing 7 = .ok (.isub, 1) := by decide +kernel
theorem d_Mo_isThing_8 : decode b_Mo_isThing 8 = .ok (.invokestatic 118, 3) := by decide +kernel
theorem d_Mo_isThing_11 : decode b_Mo_isThing 11 = .ok (.ireturn, 1) := by decide +kernel
set_option maxRecDepth 100000 in
set_option maxHeartbeats 4000000 in
theorem S_Mo_isThing_0 {G : Gc} {M : Mc} {Q : State → Prop} {K : Option Value → Hp → Prop} (hG : gok G) (hM : mok G M r_Mo_isThing Q K) (v0 : Nat) (v1 : Int32) (h : Hp) (F : kT h v0 = 12 ∧ (sem G r_Mo_isIn [.int v1, .int 0, .int ((kI h v0 0) - 1)] h (fun u2 h1 => ∃ x3 : Int32, u2 = some (.int x3) ∧ (nb x3 ∧ K (some (.int x3)) h1)))) : X G M Q 0 [(0, .ref v0), (1, .int v1)] [] h := by
  refine x_iload_n hM d_Mo_isThing_0 rfl 1 rfl ?_
  refine x_iconst (v := 0) hM d_Mo_isThing_1 (by decide) ?_
  refine x_aload_n hM d_Mo_isThing_2 rfl 0 rfl ?_
  obtain ⟨c4, F⟩ := F
  refine x_geti hG hM ck_Mo 0 (Nat.le_of_ble_eq_true rfl) rfl rfl w_897 rfl d_Mo_isThing_3 c4 ?_
  refine x_iconst (v := 1) hM d_Mo_isThing_6 (by decide) ?_
  refine x_isub hM d_Mo_isThing_7 ?_
  refine x_callS hG hM (r' := r_Mo_isIn) [.int v1, .int 0, .int ((kI h v0 0) - 1)] rfl yk_Mo_isIn ⟨Nat.le_of_ble_eq_true rfl, Nat.le_of_ble_eq_true rfl⟩ w_1017 w_1018 rfl rfl (Nat.le_of_ble_eq_true rfl) d_Mo_isThing_8 (sem_mono F ?_)
  intro u2 h1 F
  obtain ⟨x3, rfl, F⟩ := F
  exact x_zreturn hM d_Mo_isThing_11 rfl F.1 F.2
theorem d_Mo_more_0 : decode b_Mo_more 0 = .ok (.aload_n 0, 1) := by decide +kernel
theorem d_Mo_more_1 : decode b_Mo_more 1 = .ok (.getfield 16, 3) := by decide +kernel
theorem d_Mo_more_4 : decode b_Mo_more 4 = .ok (.iload_n 1, 1) := by decide +kernel
theorem d_Mo_more_5 : decode b_Mo_more 5 = .ok (.iaload, 1) := by decide +kernel
theorem d_Mo_more_6 : decode b_Mo_more 6 = .ok (.iconst 4, 1) := by decide +kernel
theorem d_Mo_more_7 : decode b_Mo_more 7 = .ok (.if_icmp .ne 6, 3) := by decide +kernel
theorem d_Mo_more_10 : decode b_Mo_more 10 = .ok (.bipush (-3), 2) := by decide +kernel
theorem d_Mo_more_12 : decode b_Mo_more 12 = .ok (.ireturn, 1) := by decide +kernel
theorem d_Mo_more_13 : decode b_Mo_more 13 = .ok (.bipush 12, 2) := by decide +kernel
theorem d_Mo_more_15 : decode b_Mo_more 15 = .ok (.iload_n 1, 1) := by decide +kernel
theorem d_Mo_more_16 : decode b_Mo_more 16 = .ok (.imul, 1) := by decide +kernel
theorem d_Mo_more_17 : decode b_Mo_more 17 = .ok (.iconst 3, 1) := by decide +kernel
theorem d_Mo_more_18 : decode b_Mo_more 18 = .ok (.aload_n 0, 1) := by decide +kernel
theorem d_Mo_more_19 : decode b_Mo_more 19 = .ok (.getfield 16, 3) := by decide +kernel
theorem d_Mo_more_22 : decode b_Mo_more 22 = .ok (.iload_n 1, 1) := by decide +kernel
theorem d_Mo_more_23 : decode b_Mo_more 23 = .ok (.iaload, 1) := by decide +kernel
theorem d_Mo_more_24 : decode b_Mo_more 24 = .ok (.imul, 1) := by decide +kernel
theorem d_Mo_more_25 : decode b_Mo_more 25 = .ok (.iadd, 1) := by decide +kernel
theorem d_Mo_more_26 : decode b_Mo_more 26 = .ok (.istore 5, 2) := by decide +kernel
theorem d_Mo_more_28 : decode b_Mo_more 28 = .ok (.aload_n 0, 1) := by decide +kernel
theorem d_Mo_more_29 : decode b_Mo_more 29 = .ok (.getfield 19, 3) := by decide +kernel
theorem d_Mo_more_32 : decode b_Mo_more 32 = .ok (.iload 5, 2) := by decide +kernel
theorem d_Mo_more_34 : decode b_Mo_more 34 = .ok (.iload_n 2, 1) := by decide +kernel
theorem d_Mo_more_35 : decode b_Mo_more 35 = .ok (.iastore, 1) := by decide +kernel
theorem d_Mo_more_36 : decode b_Mo_more 36 = .ok (.aload_n 0, 1) := by decide +kernel
theorem d_Mo_more_37 : decode b_Mo_more 37 = .ok (.getfield 19, 3) := by decide +kernel
theorem d_Mo_more_40 : decode b_Mo_more 40 = .ok (.iload 5, 2) := by decide +kernel
theorem d_Mo_more_42 : decode b_Mo_more 42 = .ok (.iconst 1, 1) := by decide +kernel
theorem d_Mo_more_43 : decode b_Mo_more 43 = .ok (.iadd, 1) := by decide +kernel
theorem d_Mo_more_44 : decode b_Mo_more 44 = .ok (.iload_n 3, 1) := by decide +kernel
theorem d_Mo_more_45 : decode b_Mo_more 45 = .ok (.iastore, 1) := by decide +kernel
theorem d_Mo_more_46 : decode b_Mo_more 46 = .ok (.aload_n 0, 1) := by decide +kernel
theorem d_Mo_more_47 : decode b_Mo_more 47 = .ok (.getfield 19, 3) := by decide +kernel
theorem d_Mo_more_50 : decode b_Mo_more 50 = .ok (.iload 5, 2) := by decide +kernel
theorem d_Mo_more_52 : decode b_Mo_more 52 = .ok (.iconst 2, 1) := by decide +kernel
theorem d_Mo_more_53 : decode b_Mo_more 53 = .ok (.iadd, 1) := by decide +kernel
theorem d_Mo_more_54 : decode b_Mo_more 54 = .ok (.iload 4, 2) := by decide +kernel
theorem d_Mo_more_56 : decode b_Mo_more 56 = .ok (.iastore, 1) := by decide +kernel
theorem d_Mo_more_57 : decode b_Mo_more 57 = .ok (.aload_n 0, 1) := by decide +kernel
theorem d_Mo_more_58 : decode b_Mo_more 58 = .ok (.getfield 16, 3) := by decide +kernel
theorem d_Mo_more_61 : decode b_Mo_more 61 = .ok (.iload_n 1, 1) := by decide +kernel
theorem d_Mo_more_62 : decode b_Mo_more 62 = .ok (.dup2, 1) := by decide +kernel
theorem d_Mo_more_63 : decode b_Mo_more 63 = .ok (.iaload, 1) := by decide +kernel
theorem d_Mo_more_64 : decode b_Mo_more 64 = .ok (.iconst 1, 1) := by decide +kernel
theorem d_Mo_more_65 : decode b_Mo_more 65 = .ok (.iadd, 1) := by decide +kernel
theorem d_Mo_more_66 : decode b_Mo_more 66 = .ok (.iastore, 1) := by decide +kernel
theorem d_Mo_more_67 : decode b_Mo_more 67 = .ok (.aload_n 0, 1) := by decide +kernel
theorem d_Mo_more_68 : decode b_Mo_more 68 = .ok (.invokevirtual 95, 3) := by decide +kernel
theorem d_Mo_more_71 : decode b_Mo_more 71 = .ok (.aload_n 0, 1) := by decide +kernel
theorem d_Mo_more_72 : decode b_Mo_more 72 = .ok (.getfield 16, 3) := by decide +kernel
theorem d_Mo_more_75 : decode b_Mo_more 75 = .ok (.iload_n 1, 1) := by decide +kernel
theorem d_Mo_more_76 : decode b_Mo_more 76 = .ok (.iaload, 1) := by decide +kernel
theorem d_Mo_more_77 : decode b_Mo_more 77 = .ok (.ireturn, 1) := by decide +kernel
set_option maxRecDepth 100000 in
set_option maxHeartbeats 4000000 in
theorem S_Mo_more_0 {G : Gc} {M : Mc} {Q : State → Prop} {K : Option Value → Hp → Prop} (hG : gok G) (hM : mok G M r_Mo_more Q K) (v0 : Nat) (v1 : Int32) (v2 : Int32) (v3 : Int32) (v4 : Int32) (h : Hp) (F : kT h v0 = 12 ∧ kR h v0 5 = some (rf h v0 5) ∧ (kT h (rf h v0 5) = 50 ∧ vp_in v1 (kN h (rf h v0 5)) ∧ (((kI h (rf h v0 5) (Int32.toNatClampNeg v1)) = 4 → K (some (.int (-3))) h) ∧ (¬ (kI h (rf h v0 5) (Int32.toNatClampNeg v1)) = 4 → (kT h v0 = 12 ∧ kR h v0 5 = some (rf h v0 5) ∧ (kT h (rf h v0 5) = 50 ∧ vp_in v1 (kN h (rf h v0 5)) ∧ (kT h v0 = 12 ∧ kR h v0 6 = some (rf h v0 6) ∧ (kT h (rf h v0 6) = 50 ∧ vp_in ((12 * v1) + (3 * (kI h (rf h v0 5) (Int32.toNatClampNeg v1)))) (kN h (rf h v0 6)) ∧ (∀ h1 : Hp, h1 = wI h (rf h v0 6) (Int32.toNatClampNeg ((12 * v1) + (3 * (kI h (rf h v0 5) (Int32.toNatClampNeg v1))))) v2 → (kT h1 v0 = 12 ∧ kR h1 v0 6 = some (rf h1 v0 6) ∧ (kT h1 (rf h1 v0 6) = 50 ∧ vp_in (((12 * v1) + (3 * (kI h (rf h v0 5) (Int32.toNatClampNeg v1)))) + 1) (kN h1 (rf h1 v0 6)) ∧ (∀ h2 : Hp, h2 = wI h1 (rf h1 v0 6) (Int32.toNatClampNeg (((12 * v1) + (3 * (kI h (rf h v0 5) (Int32.toNatClampNeg v1)))) + 1)) v3 → (kT h2 v0 = 12 ∧ kR h2 v0 6 = some (rf h2 v0 6) ∧ (kT h2 (rf h2 v0 6) = 50 ∧ vp_in (((12 * v1) + (3 * (kI h (rf h v0 5) (Int32.toNatClampNeg v1)))) + 2) (kN h2 (rf h2 v0 6)) ∧ (∀ h3 : Hp, h3 = wI h2 (rf h2 v0 6) (Int32.toNatClampNeg (((12 * v1) + (3 * (kI h (rf h v0 5) (Int32.toNatClampNeg v1)))) + 2)) v4 → (kT h3 v0 = 12 ∧ kR h3 v0 5 = some (rf h3 v0 5) ∧ (kT h3 (rf h3 v0 5) = 50 ∧ vp_in v1 (kN h3 (rf h3 v0 5)) ∧ (kT h3 (rf h3 v0 5) = 50 ∧ vp_in v1 (kN h3 (rf h3 v0 5)) ∧ (∀ h4 : Hp, h4 = wI h3 (rf h3 v0 5) (Int32.toNatClampNeg v1) ((kI h3 (rf h3 v0 5) (Int32.toNatClampNeg v1)) + 1) → (kT h4 v0 = 12 ∧ sem G r_Mo_forget [.ref v0] h4 (fun u6 h5 => u6 = none ∧ (kT h5 v0 = 12 ∧ kR h5 v0 5 = some (rf h5 v0 5) ∧ (kT h5 (rf h5 v0 5) = 50 ∧ vp_in v1 (kN h5 (rf h5 v0 5)) ∧ K (some (.int (kI h5 (rf h5 v0 5) (Int32.toNatClampNeg v1)))) h5))))))))))))))))))))))) : X G M Q 0 [(0, .ref v0), (1, .int v1), (2, .int v2), (3, .int v3), (4, .int v4)] [] h := by
  refine x_aload_n hM d_Mo_more_0 rfl 0 rfl ?_
  obtain ⟨c37, F⟩ := F
  obtain ⟨c38, F⟩ := F
  refine x_getr hG hM ck_Mo 5 (Nat.le_of_ble_eq_true rfl) rfl rfl w_902 rfl d_Mo_more_1 c37 c38 ?_
  refine x_iload_n hM d_Mo_more_4 rfl 1 rfl ?_
  obtain ⟨c35, F⟩ := F
  obtain ⟨c36, F⟩ := F
  refine x_iaload hG hM d_Mo_more_5 c35 c36 ?_
  refine x_iconst (v := 4) hM d_Mo_more_6 (by decide) ?_
  refine x_icmp_ne (tgt := 13) hM d_Mo_more_7 (by decide) (fun q34 => ?_) (fun q34 => ?_)
  · replace F := F.2 q34
    refine x_bipush (v := 12) hM d_Mo_more_13 (by decide) ?_
    refine x_iload_n hM d_Mo_more_15 rfl 1 rfl ?_
    refine x_imul hM d_Mo_more_16 ?_
    refine x_iconst (v := 3) hM d_Mo_more_17 (by decide) ?_
    refine x_aload_n hM d_Mo_more_18 rfl 0 rfl ?_
    obtain ⟨c32, F⟩ := F
    obtain ⟨c33, F⟩ := F
    refine x_getr hG hM ck_Mo 5 (Nat.le_of_ble_eq_true rfl) rfl rfl w_902 rfl d_Mo_more_19 c32 c33 ?_
    refine x_iload_n hM d_Mo_more_22 rfl 1 rfl ?_
    obtain ⟨c30, F⟩ := F
    obtain ⟨c31, F⟩ := F
    refine x_iaload hG hM d_Mo_more_23 c30 c31 ?_
    refine x_imul hM d_Mo_more_24 ?_
    refine x_iadd hM d_Mo_more_25 ?_
    refine x_istore (lv2 := [(5, .int ((12 * v1) + (3 * (kI h (rf h v0 5) (Int32.toNatClampNeg v1))))), (0, .ref v0), (1, .int v1), (2, .int v2), (3, .int v3), (4, .int v4)]) hM d_Mo_more_26 (Nat.le_of_ble_eq_true rfl) rfl ?_
    refine x_aload_n hM d_Mo_more_28 rfl 1 rfl ?_
    obtain ⟨c28, F⟩ := F
    obtain ⟨c29, F⟩ := F
    refine x_getr hG hM ck_Mo 6 (Nat.le_of_ble_eq_true rfl) rfl rfl w_903 rfl d_Mo_more_29 c28 c29 ?_
    refine x_iload hM d_Mo_more_32 0 rfl ?_
    refine x_iload_n hM d_Mo_more_34 rfl 3 rfl ?_
    obtain ⟨c26, F⟩ := F
    obtain ⟨c27, F⟩ := F
    obtain ⟨h1, eh1⟩ : ∃ z : Hp, z = wI h (rf h v0 6) (Int32.toNatClampNeg ((12 * v1) + (3 * (kI h (rf h v0 5) (Int32.toNatClampNeg v1))))) v2 := ⟨_, rfl⟩
    replace F := F h1 eh1
    refine x_iastore hG hM d_Mo_more_35 c26 c27 ?_
    rw [← eh1]
    clear eh1
    refine x_aload_n hM d_Mo_more_36 rfl 1 rfl ?_
    obtain ⟨c24, F⟩ := F
    obtain ⟨c25, F⟩ := F
    refine x_getr hG hM ck_Mo 6 (Nat.le_of_ble_eq_true rfl) rfl rfl w_903 rfl d_Mo_more_37 c24 c25 ?_
    refine x_iload hM d_Mo_more_40 0 rfl ?_
    refine x_iconst (v := 1) hM d_Mo_more_42 (by decide) ?_
    refine x_iadd hM d_Mo_more_43 ?_
    refine x_iload_n hM d_Mo_more_44 rfl 4 rfl ?_
    obtain ⟨c22, F⟩ := F
    obtain ⟨c23, F⟩ := F
    obtain ⟨h2, eh2⟩ : ∃ z : Hp, z = wI h1 (rf h1 v0 6) (Int32.toNatClampNeg (((12 * v1) + (3 * (kI h (rf h v0 5) (Int32.toNatClampNeg v1)))) + 1)) v3 := ⟨_, rfl⟩
    replace F := F h2 eh2
    refine x_iastore hG hM d_Mo_more_45 c22 c23 ?_
    rw [← eh2]
    clear eh2
    refine x_aload_n hM d_Mo_more_46 rfl 1 rfl ?_
    obtain ⟨c20, F⟩ := F
    obtain ⟨c21, F⟩ := F
    refine x_getr hG hM ck_Mo 6 (Nat.le_of_ble_eq_true rfl) rfl rfl w_903 rfl d_Mo_more_47 c20 c21 ?_
    refine x_iload hM d_Mo_more_50 0 rfl ?_
    refine x_iconst (v := 2) hM d_Mo_more_52 (by decide) ?_
    refine x_iadd hM d_Mo_more_53 ?_
    refine x_iload hM d_Mo_more_54 5 rfl ?_
    obtain ⟨c18, F⟩ := F
    obtain ⟨c19, F⟩ := F
    obtain ⟨h3, eh3⟩ : ∃ z : Hp, z = wI h2 (rf h2 v0 6) (Int32.toNatClampNeg (((12 * v1) + (3 * (kI h (rf h v0 5) (Int32.toNatClampNeg v1)))) + 2)) v4 := ⟨_, rfl⟩
    replace F := F h3 eh3
    refine x_iastore hG hM d_Mo_more_56 c18 c19 ?_
    rw [← eh3]
    clear eh3
    refine x_aload_n hM d_Mo_more_57 rfl 1 rfl ?_
    obtain ⟨c16, F⟩ := F
    obtain ⟨c17, F⟩ := F
    refine x_getr hG hM ck_Mo 5 (Nat.le_of_ble_eq_true rfl) rfl rfl w_902 rfl d_Mo_more_58 c16 c17 ?_
    refine x_iload_n hM d_Mo_more_61 rfl 2 rfl ?_
    refine x_dup2 hM d_Mo_more_62 rfl rfl ?_
    obtain ⟨c14, F⟩ := F
    obtain ⟨c15, F⟩ := F
    refine x_iaload hG hM d_Mo_more_63 c14 c15 ?_
    refine x_iconst (v := 1) hM d_Mo_more_64 (by decide) ?_
    refine x_iadd hM d_Mo_more_65 ?_
    obtain ⟨c12, F⟩ := F
    obtain ⟨c13, F⟩ := F
    obtain ⟨h4, eh4⟩ : ∃ z : Hp, z = wI h3 (rf h3 v0 5) (Int32.toNatClampNeg v1) ((kI h3 (rf h3 v0 5) (Int32.toNatClampNeg v1)) + 1) := ⟨_, rfl⟩
    replace F := F h4 eh4
    refine x_iastore hG hM d_Mo_more_66 c12 c13 ?_
    rw [← eh4]
    clear eh4
    refine x_aload_n hM d_Mo_more_67 rfl 1 rfl ?_
    obtain ⟨c11, F⟩ := F
    refine x_callV hG hM (r' := r_Mo_forget) (ci := 11) [] rfl rfl (Nat.le_of_ble_eq_true rfl) yk_Mo_forget ⟨Nat.le_of_ble_eq_true rfl, Nat.le_of_ble_eq_true rfl⟩ w_893 w_895 ws_Mo_forget rfl rfl (Nat.le_of_ble_eq_true rfl) d_Mo_more_68 c11 (sem_mono F ?_)
    intro u6 h5 F
    obtain ⟨rfl, F⟩ := F
    refine x_aload_n hM d_Mo_more_71 rfl 1 rfl ?_
    obtain ⟨c9, F⟩ := F
    obtain ⟨c10, F⟩ := F
    refine x_getr hG hM ck_Mo 5 (Nat.le_of_ble_eq_true rfl) rfl rfl w_902 rfl d_Mo_more_72 c9 c10 ?_
    refine x_iload_n hM d_Mo_more_75 rfl 2 rfl ?_
    obtain ⟨c7, F⟩ := F
    obtain ⟨c8, F⟩ := F
    refine x_iaload hG hM d_Mo_more_76 c7 c8 ?_
    exact x_ireturn hM d_Mo_more_77 rfl F
  · replace F := F.1 q34
    refine x_bipush (v := (-3)) hM d_Mo_more_10 (by decide) ?_
    exact x_ireturn hM d_Mo_more_12 rfl F
theorem d_Mo_aim_0 : decode b_Mo_aim 0 = .ok (.aload_n 0, 1) := by decide +kernel
theorem d_Mo_aim_1 : decode b_Mo_aim 1 = .ok (.iload_n 1, 1) := by decide +kernel
theorem d_Mo_aim_2 : decode b_Mo_aim 2 = .ok (.iload_n 2, 1) := by decide +kernel
theorem d_Mo_aim_3 : decode b_Mo_aim 3 = .ok (.iload_n 3, 1) := by decide +kernel
theorem d_Mo_aim_4 : decode b_Mo_aim 4 = .ok (.invokevirtual 136, 3) := by decide +kernel
theorem d_Mo_aim_7 : decode b_Mo_aim 7 = .ok (.ifCond .eq 15, 3) := by decide +kernel
theorem d_Mo_aim_10 : decode b_Mo_aim 10 = .ok (.aload_n 0, 1) := by decide +kernel
theorem d_Mo_aim_11 : decode b_Mo_aim 11 = .ok (.bipush 12, 2) := by decide +kernel
theorem d_Mo_aim_13 : decode b_Mo_aim 13 = .ok (.iload_n 1, 1) := by decide +kernel
theorem d_Mo_aim_14 : decode b_Mo_aim 14 = .ok (.iload_n 2, 1) := by decide +kernel
theorem d_Mo_aim_15 : decode b_Mo_aim 15 = .ok (.iload_n 3, 1) := by decide +kernel
theorem d_Mo_aim_16 : decode b_Mo_aim 16 = .ok (.invokevirtual 139, 3) := by decide +kernel
theorem d_Mo_aim_19 : decode b_Mo_aim 19 = .ok (.goto 5, 3) := by decide +kernel
theorem d_Mo_aim_22 : decode b_Mo_aim 22 = .ok (.bipush (-2), 2) := by decide +kernel
theorem d_Mo_aim_24 : decode b_Mo_aim 24 = .ok (.ireturn, 1) := by decide +kernel
set_option maxRecDepth 100000 in
set_option maxHeartbeats 4000000 in
theorem S_Mo_aim_0 {G : Gc} {M : Mc} {Q : State → Prop} {K : Option Value → Hp → Prop} (hG : gok G) (hM : mok G M r_Mo_aim Q K) (v0 : Nat) (v1 : Int32) (v2 : Int32) (v3 : Int32) (h : Hp) (F : kT h v0 = 12 ∧ sem G r_Mo_isCondition [.ref v0, .int v1, .int v2, .int v3] h (fun u2 h1 => ∃ x3 : Int32, u2 = some (.int x3) ∧ ((x3 = 0 → K (some (.int (-2))) h1) ∧ (¬ x3 = 0 → (kT h1 v0 = 12 ∧ sem G r_Mo_more [.ref v0, .int 12, .int v1, .int v2, .int v3] h1 (fun u5 h4 => ∃ x6 : Int32, u5 = some (.int x6) ∧ K (some (.int x6)) h4)))))) : X G M Q 0 [(0, .ref v0), (1, .int v1), (2, .int v2), (3, .int v3)] [] h := by
  refine x_aload_n hM d_Mo_aim_0 rfl 0 rfl ?_
  refine x_iload_n hM d_Mo_aim_1 rfl 1 rfl ?_
  refine x_iload_n hM d_Mo_aim_2 rfl 2 rfl ?_
  refine x_iload_n hM d_Mo_aim_3 rfl 3 rfl ?_
  obtain ⟨c9, F⟩ := F
  refine x_callV hG hM (r' := r_Mo_isCondition) (ci := 11) [.int v1, .int v2, .int v3] rfl rfl (Nat.le_of_ble_eq_true rfl) yk_Mo_isCondition ⟨Nat.le_of_ble_eq_true rfl, Nat.le_of_ble_eq_true rfl⟩ w_1048 w_1050 ws_Mo_isCondition rfl rfl (Nat.le_of_ble_eq_true rfl) d_Mo_aim_4 c9 (sem_mono F ?_)
  intro u2 h1 F
  obtain ⟨x3, rfl, F⟩ := F
  refine x_if_eq (tgt := 22) hM d_Mo_aim_7 (by decide) (fun q8 => ?_) (fun q8 => ?_)
  · replace F := F.1 q8
    refine x_bipush (v := (-2)) hM d_Mo_aim_22 (by decide) ?_
    exact x_ireturn hM d_Mo_aim_24 rfl F
  · replace F := F.2 q8
    refine x_aload_n hM d_Mo_aim_10 rfl 0 rfl ?_
    refine x_bipush (v := 12) hM d_Mo_aim_11 (by decide) ?_
    refine x_iload_n hM d_Mo_aim_13 rfl 1 rfl ?_
    refine x_iload_n hM d_Mo_aim_14 rfl 2 rfl ?_
    refine x_iload_n hM d_Mo_aim_15 rfl 3 rfl ?_
    obtain ⟨c7, F⟩ := F
    refine x_callV hG hM (r' := r_Mo_more) (ci := 11) [.int 12, .int v1, .int v2, .int v3] rfl rfl (Nat.le_of_ble_eq_true rfl) yk_Mo_more ⟨Nat.le_of_ble_eq_true rfl, Nat.le_of_ble_eq_true rfl⟩ w_1056 w_1058 ws_Mo_more rfl rfl (Nat.le_of_ble_eq_true rfl) d_Mo_aim_16 c7 (sem_mono F ?_)
    intro u5 h4 F
    obtain ⟨x6, rfl, F⟩ := F
    refine x_goto (tgt := 24) hM d_Mo_aim_19 (by decide) ?_
    exact x_ireturn hM d_Mo_aim_24 rfl F
theorem d_Mo_aimless_0 : decode b_Mo_aimless 0 = .ok (.aload_n 0, 1) := by decide +kernel
theorem d_Mo_aimless_1 : decode b_Mo_aimless 1 = .ok (.getfield 16, 3) := by decide +kernel
theorem d_Mo_aimless_4 : decode b_Mo_aimless 4 = .ok (.bipush 12, 2) := by decide +kernel
theorem d_Mo_aimless_6 : decode b_Mo_aimless 6 = .ok (.iaload, 1) := by decide +kernel
theorem d_Mo_aimless_7 : decode b_Mo_aimless 7 = .ok (.istore_n 1, 1) := by decide +kernel
theorem d_Mo_aimless_8 : decode b_Mo_aimless 8 = .ok (.aload_n 0, 1) := by decide +kernel
theorem d_Mo_aimless_9 : decode b_Mo_aimless 9 = .ok (.getfield 16, 3) := by decide +kernel
theorem d_Mo_aimless_12 : decode b_Mo_aimless 12 = .ok (.bipush 12, 2) := by decide +kernel
theorem d_Mo_aimless_14 : decode b_Mo_aimless 14 = .ok (.iconst 0, 1) := by decide +kernel
theorem d_Mo_aimless_15 : decode b_Mo_aimless 15 = .ok (.iastore, 1) := by decide +kernel
theorem d_Mo_aimless_16 : decode b_Mo_aimless 16 = .ok (.aload_n 0, 1) := by decide +kernel
theorem d_Mo_aimless_17 : decode b_Mo_aimless 17 = .ok (.invokevirtual 95, 3) := by decide +kernel
theorem d_Mo_aimless_20 : decode b_Mo_aimless 20 = .ok (.iload_n 1, 1) := by decide +kernel
theorem d_Mo_aimless_21 : decode b_Mo_aimless 21 = .ok (.ireturn, 1) := by decide +kernel
set_option maxRecDepth 100000 in
set_option maxHeartbeats 4000000 in
theorem S_Mo_aimless_0 {G : Gc} {M : Mc} {Q : State → Prop} {K : Option Value → Hp → Prop} (hG : gok G) (hM : mok G M r_Mo_aimless Q K) (v0 : Nat) (h : Hp) (F : kT h v0 = 12 ∧ kR h v0 5 = some (rf h v0 5) ∧ (kT h (rf h v0 5) = 50 ∧ vp_in 12 (kN h (rf h v0 5)) ∧ (kT h v0 = 12 ∧ kR h v0 5 = some (rf h v0 5) ∧ (kT h (rf h v0 5) = 50 ∧ vp_in 12 (kN h (rf h v0 5)) ∧ (∀ h1 : Hp, h1 = wI h (rf h v0 5) (Int32.toNatClampNeg 12) 0 → (kT h1 v0 = 12 ∧ sem G r_Mo_forget [.ref v0] h1 (fun u3 h2 => u3 = none ∧ K (some (.int (kI h (rf h v0 5) (Int32.toNatClampNeg 12)))) h2))))))) : X G M Q 0 [(0, .ref v0)] [] h := by
  refine x_aload_n hM d_Mo_aimless_0 rfl 0 rfl ?_
  obtain ⟨c11, F⟩ := F
  obtain ⟨c12, F⟩ := F
  refine x_getr hG hM ck_Mo 5 (Nat.le_of_ble_eq_true rfl) rfl rfl w_902 rfl d_Mo_aimless_1 c11 c12 ?_
  refine x_bipush (v := 12) hM d_Mo_aimless_4 (by decide) ?_
  obtain ⟨c9, F⟩ := F
  obtain ⟨c10, F⟩ := F
  refine x_iaload hG hM d_Mo_aimless_6 c9 c10 ?_
  refine x_istore_n (lv2 := [(1, .int (kI h (rf h v0 5) (Int32.toNatClampNeg 12))), (0, .ref v0)]) hM d_Mo_aimless_7 rfl (Nat.le_of_ble_eq_true rfl) rfl ?_
  refine x_aload_n hM d_Mo_aimless_8 rfl 1 rfl ?_
  obtain ⟨c7, F⟩ := F
  obtain ⟨c8, F⟩ := F
  refine x_getr hG hM ck_Mo 5 (Nat.le_of_ble_eq_true rfl) rfl rfl w_902 rfl d_Mo_aimless_9 c7 c8 ?_
  refine x_bipush (v := 12) hM d_Mo_aimless_12 (by decide) ?_
  refine x_iconst (v := 0) hM d_Mo_aimless_14 (by decide) ?_
  obtain ⟨c5, F⟩ := F
  obtain ⟨c6, F⟩ := F
  obtain ⟨h1, eh1⟩ : ∃ z : Hp, z = wI h (rf h v0 5) (Int32.toNatClampNeg 12) 0 := ⟨_, rfl⟩
  replace F := F h1 eh1
  refine x_iastore hG hM d_Mo_aimless_15 c5 c6 ?_
  rw [← eh1]
  clear eh1
  refine x_aload_n hM d_Mo_aimless_16 rfl 1 rfl ?_
  obtain ⟨c4, F⟩ := F
  refine x_callV hG hM (r' := r_Mo_forget) (ci := 11) [] rfl rfl (Nat.le_of_ble_eq_true rfl) yk_Mo_forget ⟨Nat.le_of_ble_eq_true rfl, Nat.le_of_ble_eq_true rfl⟩ w_893 w_895 ws_Mo_forget rfl rfl (Nat.le_of_ble_eq_true rfl) d_Mo_aimless_17 c4 (sem_mono F ?_)
  intro u3 h2 F
  obtain ⟨rfl, F⟩ := F
  refine x_iload_n hM d_Mo_aimless_20 rfl 0 rfl ?_
  exact x_ireturn hM d_Mo_aimless_21 rfl F
