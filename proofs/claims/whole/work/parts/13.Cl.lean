theorem d_Cl_init_0 : decode b_Cl_init 0 = .ok (.aload_n 0, 1) := by decide +kernel
theorem d_Cl_init_1 : decode b_Cl_init 1 = .ok (.invokespecial 3, 3) := by decide +kernel
theorem d_Cl_init_4 : decode b_Cl_init 4 = .ok (.aload_n 0, 1) := by decide +kernel
theorem d_Cl_init_5 : decode b_Cl_init 5 = .ok (.iconst 0, 1) := by decide +kernel
theorem d_Cl_init_6 : decode b_Cl_init 6 = .ok (.putfield 9, 3) := by decide +kernel
theorem d_Cl_init_9 : decode b_Cl_init 9 = .ok (.aload_n 0, 1) := by decide +kernel
theorem d_Cl_init_10 : decode b_Cl_init 10 = .ok (.iconst 4, 1) := by decide +kernel
theorem d_Cl_init_11 : decode b_Cl_init 11 = .ok (.newarray .int, 2) := by decide +kernel
theorem d_Cl_init_13 : decode b_Cl_init 13 = .ok (.putfield 15, 3) := by decide +kernel
theorem d_Cl_init_16 : decode b_Cl_init 16 = .ok (.aload_n 0, 1) := by decide +kernel
theorem d_Cl_init_17 : decode b_Cl_init 17 = .ok (.iconst 4, 1) := by decide +kernel
theorem d_Cl_init_18 : decode b_Cl_init 18 = .ok (.newarray .int, 2) := by decide +kernel
theorem d_Cl_init_20 : decode b_Cl_init 20 = .ok (.putfield 19, 3) := by decide +kernel
theorem d_Cl_init_23 : decode b_Cl_init 23 = .ok (.aload_n 0, 1) := by decide +kernel
theorem d_Cl_init_24 : decode b_Cl_init 24 = .ok (.iconst 4, 1) := by decide +kernel
theorem d_Cl_init_25 : decode b_Cl_init 25 = .ok (.newarray .int, 2) := by decide +kernel
theorem d_Cl_init_27 : decode b_Cl_init 27 = .ok (.putfield 22, 3) := by decide +kernel
theorem d_Cl_init_30 : decode b_Cl_init 30 = .ok (.return_, 1) := by decide +kernel
set_option maxRecDepth 100000 in
set_option maxHeartbeats 4000000 in
theorem S_Cl_init_0 {G : Gc} {M : Mc} {Q : State → Prop} {K : Option Value → Hp → Prop} (hG : gok G) (hM : mok G M r_Cl_init Q K) (v0 : Nat) (h : Hp) (F : kT h v0 = 5 ∧ (∀ h1 : Hp, h1 = wI h v0 0 0 → (kX h1 + 1 ≤ gB G + capC ∧ kS h1 + 4 ≤ capS ∧ (∀ h2 : Hp, h2 = wA h1 50 4 4 → (kT h2 v0 = 5 ∧ (∀ h3 : Hp, h3 = wR h2 v0 1 (some (kX h1)) → (kX h3 + 1 ≤ gB G + capC ∧ kS h3 + 4 ≤ capS ∧ (∀ h4 : Hp, h4 = wA h3 50 4 4 → (kT h4 v0 = 5 ∧ (∀ h5 : Hp, h5 = wR h4 v0 2 (some (kX h3)) → (kX h5 + 1 ≤ gB G + capC ∧ kS h5 + 4 ≤ capS ∧ (∀ h6 : Hp, h6 = wA h5 50 4 4 → (kT h6 v0 = 5 ∧ (∀ h7 : Hp, h7 = wR h6 v0 3 (some (kX h5)) → K none h7)))))))))))))) : X G M Q 0 [(0, .ref v0)] [] h := by
  refine x_aload_n hM d_Cl_init_0 rfl 0 rfl ?_
  refine x_objInit hG hM rfl w_42 w_22 w_objcode d_Cl_init_1 (Nat.le_of_ble_eq_true rfl) (Nat.le_of_ble_eq_true rfl) (Nat.le_of_ble_eq_true rfl) ?_
  refine x_aload_n hM d_Cl_init_4 rfl 0 rfl ?_
  refine x_iconst (v := 0) hM d_Cl_init_5 (by decide) ?_
  obtain ⟨c17, F⟩ := F
  obtain ⟨h1, eh1⟩ : ∃ z : Hp, z = wI h v0 0 0 := ⟨_, rfl⟩
  replace F := F h1 eh1
  refine x_puti hG hM ck_Cl 0 (Nat.le_of_ble_eq_true rfl) rfl rfl w_43 rfl d_Cl_init_6 (Or.inl rfl) c17 ?_
  rw [← eh1]
  clear eh1
  refine x_aload_n hM d_Cl_init_9 rfl 0 rfl ?_
  refine x_iconst (v := 4) hM d_Cl_init_10 (by decide) ?_
  obtain ⟨c15, F⟩ := F
  obtain ⟨c16, F⟩ := F
  obtain ⟨h2, eh2⟩ : ∃ z : Hp, z = wA h1 50 4 4 := ⟨_, rfl⟩
  replace F := F h2 eh2
  refine x_newI hG hM (N := 4) w_63 d_Cl_init_11 (by decide) rfl c15 c16 ?_
  rw [← eh2]
  clear eh2
  obtain ⟨c14, F⟩ := F
  obtain ⟨h3, eh3⟩ : ∃ z : Hp, z = wR h2 v0 1 (some (kX h1)) := ⟨_, rfl⟩
  replace F := F h3 eh3
  refine x_putr hG hM ck_Cl 1 (Nat.le_of_ble_eq_true rfl) (Or.inr ⟨_, rfl⟩) rfl w_48 rfl d_Cl_init_13 (Or.inr ⟨rfl, rfl, rfl⟩) c14 ?_
  rw [← eh3]
  clear eh3
  refine x_aload_n hM d_Cl_init_16 rfl 0 rfl ?_
  refine x_iconst (v := 4) hM d_Cl_init_17 (by decide) ?_
  obtain ⟨c12, F⟩ := F
  obtain ⟨c13, F⟩ := F
  obtain ⟨h4, eh4⟩ : ∃ z : Hp, z = wA h3 50 4 4 := ⟨_, rfl⟩
  replace F := F h4 eh4
  refine x_newI hG hM (N := 4) w_63 d_Cl_init_18 (by decide) rfl c12 c13 ?_
  rw [← eh4]
  clear eh4
  obtain ⟨c11, F⟩ := F
  obtain ⟨h5, eh5⟩ : ∃ z : Hp, z = wR h4 v0 2 (some (kX h3)) := ⟨_, rfl⟩
  replace F := F h5 eh5
  refine x_putr hG hM ck_Cl 2 (Nat.le_of_ble_eq_true rfl) (Or.inr ⟨_, rfl⟩) rfl w_50 rfl d_Cl_init_20 (Or.inr ⟨rfl, rfl, rfl⟩) c11 ?_
  rw [← eh5]
  clear eh5
  refine x_aload_n hM d_Cl_init_23 rfl 0 rfl ?_
  refine x_iconst (v := 4) hM d_Cl_init_24 (by decide) ?_
  obtain ⟨c9, F⟩ := F
  obtain ⟨c10, F⟩ := F
  obtain ⟨h6, eh6⟩ : ∃ z : Hp, z = wA h5 50 4 4 := ⟨_, rfl⟩
  replace F := F h6 eh6
  refine x_newI hG hM (N := 4) w_63 d_Cl_init_25 (by decide) rfl c9 c10 ?_
  rw [← eh6]
  clear eh6
  obtain ⟨c8, F⟩ := F
  obtain ⟨h7, eh7⟩ : ∃ z : Hp, z = wR h6 v0 3 (some (kX h5)) := ⟨_, rfl⟩
  replace F := F h7 eh7
  refine x_putr hG hM ck_Cl 3 (Nat.le_of_ble_eq_true rfl) (Or.inr ⟨_, rfl⟩) rfl w_52 rfl d_Cl_init_27 (Or.inr ⟨rfl, rfl, rfl⟩) c8 ?_
  rw [← eh7]
  clear eh7
  exact x_return hM d_Cl_init_30 rfl F
theorem d_Cl_add_0 : decode b_Cl_add 0 = .ok (.aload_n 0, 1) := by decide +kernel
theorem d_Cl_add_1 : decode b_Cl_add 1 = .ok (.getfield 9, 3) := by decide +kernel
theorem d_Cl_add_4 : decode b_Cl_add 4 = .ok (.iconst 4, 1) := by decide +kernel
theorem d_Cl_add_5 : decode b_Cl_add 5 = .ok (.if_icmp .lt 6, 3) := by decide +kernel
theorem d_Cl_add_8 : decode b_Cl_add 8 = .ok (.bipush (-3), 2) := by decide +kernel
theorem d_Cl_add_10 : decode b_Cl_add 10 = .ok (.ireturn, 1) := by decide +kernel
theorem d_Cl_add_11 : decode b_Cl_add 11 = .ok (.aload_n 0, 1) := by decide +kernel
theorem d_Cl_add_12 : decode b_Cl_add 12 = .ok (.getfield 15, 3) := by decide +kernel
theorem d_Cl_add_15 : decode b_Cl_add 15 = .ok (.aload_n 0, 1) := by decide +kernel
theorem d_Cl_add_16 : decode b_Cl_add 16 = .ok (.getfield 9, 3) := by decide +kernel
theorem d_Cl_add_19 : decode b_Cl_add 19 = .ok (.iload_n 1, 1) := by decide +kernel
theorem d_Cl_add_20 : decode b_Cl_add 20 = .ok (.iastore, 1) := by decide +kernel
theorem d_Cl_add_21 : decode b_Cl_add 21 = .ok (.aload_n 0, 1) := by decide +kernel
theorem d_Cl_add_22 : decode b_Cl_add 22 = .ok (.getfield 19, 3) := by decide +kernel
theorem d_Cl_add_25 : decode b_Cl_add 25 = .ok (.aload_n 0, 1) := by decide +kernel
theorem d_Cl_add_26 : decode b_Cl_add 26 = .ok (.getfield 9, 3) := by decide +kernel
theorem d_Cl_add_29 : decode b_Cl_add 29 = .ok (.iload_n 2, 1) := by decide +kernel
theorem d_Cl_add_30 : decode b_Cl_add 30 = .ok (.iastore, 1) := by decide +kernel
theorem d_Cl_add_31 : decode b_Cl_add 31 = .ok (.aload_n 0, 1) := by decide +kernel
theorem d_Cl_add_32 : decode b_Cl_add 32 = .ok (.getfield 22, 3) := by decide +kernel
theorem d_Cl_add_35 : decode b_Cl_add 35 = .ok (.aload_n 0, 1) := by decide +kernel
theorem d_Cl_add_36 : decode b_Cl_add 36 = .ok (.getfield 9, 3) := by decide +kernel
theorem d_Cl_add_39 : decode b_Cl_add 39 = .ok (.iload_n 3, 1) := by decide +kernel
theorem d_Cl_add_40 : decode b_Cl_add 40 = .ok (.iastore, 1) := by decide +kernel
theorem d_Cl_add_41 : decode b_Cl_add 41 = .ok (.aload_n 0, 1) := by decide +kernel
theorem d_Cl_add_42 : decode b_Cl_add 42 = .ok (.dup, 1) := by decide +kernel
theorem d_Cl_add_43 : decode b_Cl_add 43 = .ok (.getfield 9, 3) := by decide +kernel
theorem d_Cl_add_46 : decode b_Cl_add 46 = .ok (.iconst 1, 1) := by decide +kernel
theorem d_Cl_add_47 : decode b_Cl_add 47 = .ok (.iadd, 1) := by decide +kernel
theorem d_Cl_add_48 : decode b_Cl_add 48 = .ok (.putfield 9, 3) := by decide +kernel
theorem d_Cl_add_51 : decode b_Cl_add 51 = .ok (.aload_n 0, 1) := by decide +kernel
theorem d_Cl_add_52 : decode b_Cl_add 52 = .ok (.getfield 9, 3) := by decide +kernel
theorem d_Cl_add_55 : decode b_Cl_add 55 = .ok (.ireturn, 1) := by decide +kernel
set_option maxRecDepth 100000 in
set_option maxHeartbeats 4000000 in
theorem S_Cl_add_0 {G : Gc} {M : Mc} {Q : State → Prop} {K : Option Value → Hp → Prop} (hG : gok G) (hM : mok G M r_Cl_add Q K) (v0 : Nat) (v1 : Int32) (v2 : Int32) (v3 : Int32) (h : Hp) (F : kT h v0 = 5 ∧ (((kI h v0 0) < 4 → (kT h v0 = 5 ∧ kR h v0 1 = some (rf h v0 1) ∧ (kT h v0 = 5 ∧ (kT h (rf h v0 1) = 50 ∧ vp_in (kI h v0 0) (kN h (rf h v0 1)) ∧ (∀ h1 : Hp, h1 = wI h (rf h v0 1) (Int32.toNatClampNeg (kI h v0 0)) v1 → (kT h1 v0 = 5 ∧ kR h1 v0 2 = some (rf h1 v0 2) ∧ (kT h1 v0 = 5 ∧ (kT h1 (rf h1 v0 2) = 50 ∧ vp_in (kI h1 v0 0) (kN h1 (rf h1 v0 2)) ∧ (∀ h2 : Hp, h2 = wI h1 (rf h1 v0 2) (Int32.toNatClampNeg (kI h1 v0 0)) v2 → (kT h2 v0 = 5 ∧ kR h2 v0 3 = some (rf h2 v0 3) ∧ (kT h2 v0 = 5 ∧ (kT h2 (rf h2 v0 3) = 50 ∧ vp_in (kI h2 v0 0) (kN h2 (rf h2 v0 3)) ∧ (∀ h3 : Hp, h3 = wI h2 (rf h2 v0 3) (Int32.toNatClampNeg (kI h2 v0 0)) v3 → (kT h3 v0 = 5 ∧ (kT h3 v0 = 5 ∧ (∀ h4 : Hp, h4 = wI h3 v0 0 ((kI h3 v0 0) + 1) → (kT h4 v0 = 5 ∧ K (some (.int (kI h4 v0 0))) h4))))))))))))))))) ∧ (¬ (kI h v0 0) < 4 → K (some (.int (-3))) h))) : X G M Q 0 [(0, .ref v0), (1, .int v1), (2, .int v2), (3, .int v3)] [] h := by
  refine x_aload_n hM d_Cl_add_0 rfl 0 rfl ?_
  obtain ⟨c24, F⟩ := F
  refine x_geti hG hM ck_Cl 0 (Nat.le_of_ble_eq_true rfl) rfl rfl w_43 rfl d_Cl_add_1 c24 ?_
  refine x_iconst (v := 4) hM d_Cl_add_4 (by decide) ?_
  refine x_icmp_lt (tgt := 11) hM d_Cl_add_5 (by decide) (fun q23 => ?_) (fun q23 => ?_)
  · replace F := F.1 q23
    refine x_aload_n hM d_Cl_add_11 rfl 0 rfl ?_
    obtain ⟨c21, F⟩ := F
    obtain ⟨c22, F⟩ := F
    refine x_getr hG hM ck_Cl 1 (Nat.le_of_ble_eq_true rfl) rfl rfl w_48 rfl d_Cl_add_12 c21 c22 ?_
    refine x_aload_n hM d_Cl_add_15 rfl 0 rfl ?_
    obtain ⟨c20, F⟩ := F
    refine x_geti hG hM ck_Cl 0 (Nat.le_of_ble_eq_true rfl) rfl rfl w_43 rfl d_Cl_add_16 c20 ?_
    refine x_iload_n hM d_Cl_add_19 rfl 1 rfl ?_
    obtain ⟨c18, F⟩ := F
    obtain ⟨c19, F⟩ := F
    obtain ⟨h1, eh1⟩ : ∃ z : Hp, z = wI h (rf h v0 1) (Int32.toNatClampNeg (kI h v0 0)) v1 := ⟨_, rfl⟩
    replace F := F h1 eh1
    refine x_iastore hG hM d_Cl_add_20 c18 c19 ?_
    rw [← eh1]
    clear eh1
    refine x_aload_n hM d_Cl_add_21 rfl 0 rfl ?_
    obtain ⟨c16, F⟩ := F
    obtain ⟨c17, F⟩ := F
    refine x_getr hG hM ck_Cl 2 (Nat.le_of_ble_eq_true rfl) rfl rfl w_50 rfl d_Cl_add_22 c16 c17 ?_
    refine x_aload_n hM d_Cl_add_25 rfl 0 rfl ?_
    obtain ⟨c15, F⟩ := F
    refine x_geti hG hM ck_Cl 0 (Nat.le_of_ble_eq_true rfl) rfl rfl w_43 rfl d_Cl_add_26 c15 ?_
    refine x_iload_n hM d_Cl_add_29 rfl 2 rfl ?_
    obtain ⟨c13, F⟩ := F
    obtain ⟨c14, F⟩ := F
    obtain ⟨h2, eh2⟩ : ∃ z : Hp, z = wI h1 (rf h1 v0 2) (Int32.toNatClampNeg (kI h1 v0 0)) v2 := ⟨_, rfl⟩
    replace F := F h2 eh2
    refine x_iastore hG hM d_Cl_add_30 c13 c14 ?_
    rw [← eh2]
    clear eh2
    refine x_aload_n hM d_Cl_add_31 rfl 0 rfl ?_
    obtain ⟨c11, F⟩ := F
    obtain ⟨c12, F⟩ := F
    refine x_getr hG hM ck_Cl 3 (Nat.le_of_ble_eq_true rfl) rfl rfl w_52 rfl d_Cl_add_32 c11 c12 ?_
    refine x_aload_n hM d_Cl_add_35 rfl 0 rfl ?_
    obtain ⟨c10, F⟩ := F
    refine x_geti hG hM ck_Cl 0 (Nat.le_of_ble_eq_true rfl) rfl rfl w_43 rfl d_Cl_add_36 c10 ?_
    refine x_iload_n hM d_Cl_add_39 rfl 3 rfl ?_
    obtain ⟨c8, F⟩ := F
    obtain ⟨c9, F⟩ := F
    obtain ⟨h3, eh3⟩ : ∃ z : Hp, z = wI h2 (rf h2 v0 3) (Int32.toNatClampNeg (kI h2 v0 0)) v3 := ⟨_, rfl⟩
    replace F := F h3 eh3
    refine x_iastore hG hM d_Cl_add_40 c8 c9 ?_
    rw [← eh3]
    clear eh3
    refine x_aload_n hM d_Cl_add_41 rfl 0 rfl ?_
    refine x_dup hM d_Cl_add_42 rfl ?_
    obtain ⟨c7, F⟩ := F
    refine x_geti hG hM ck_Cl 0 (Nat.le_of_ble_eq_true rfl) rfl rfl w_43 rfl d_Cl_add_43 c7 ?_
    refine x_iconst (v := 1) hM d_Cl_add_46 (by decide) ?_
    refine x_iadd hM d_Cl_add_47 ?_
    obtain ⟨c6, F⟩ := F
    obtain ⟨h4, eh4⟩ : ∃ z : Hp, z = wI h3 v0 0 ((kI h3 v0 0) + 1) := ⟨_, rfl⟩
    replace F := F h4 eh4
    refine x_puti hG hM ck_Cl 0 (Nat.le_of_ble_eq_true rfl) rfl rfl w_43 rfl d_Cl_add_48 (Or.inl rfl) c6 ?_
    rw [← eh4]
    clear eh4
    refine x_aload_n hM d_Cl_add_51 rfl 0 rfl ?_
    obtain ⟨c5, F⟩ := F
    refine x_geti hG hM ck_Cl 0 (Nat.le_of_ble_eq_true rfl) rfl rfl w_43 rfl d_Cl_add_52 c5 ?_
    exact x_ireturn hM d_Cl_add_55 rfl F
  · replace F := F.2 q23
    refine x_bipush (v := (-3)) hM d_Cl_add_8 (by decide) ?_
    exact x_ireturn hM d_Cl_add_10 rfl F
theorem d_Cl_hold_0 : decode b_Cl_hold 0 = .ok (.iconst 0, 1) := by decide +kernel
theorem d_Cl_hold_1 : decode b_Cl_hold 1 = .ok (.istore_n 2, 1) := by decide +kernel
theorem d_Cl_hold_2 : decode b_Cl_hold 2 = .ok (.iload_n 2, 1) := by decide +kernel
theorem d_Cl_hold_3 : decode b_Cl_hold 3 = .ok (.aload_n 0, 1) := by decide +kernel
theorem d_Cl_hold_4 : decode b_Cl_hold 4 = .ok (.getfield 9, 3) := by decide +kernel
theorem d_Cl_hold_7 : decode b_Cl_hold 7 = .ok (.if_icmp .ge 137, 3) := by decide +kernel
theorem d_Cl_hold_10 : decode b_Cl_hold 10 = .ok (.iload_n 1, 1) := by decide +kernel
theorem d_Cl_hold_11 : decode b_Cl_hold 11 = .ok (.aload_n 0, 1) := by decide +kernel
theorem d_Cl_hold_12 : decode b_Cl_hold 12 = .ok (.getfield 15, 3) := by decide +kernel
theorem d_Cl_hold_15 : decode b_Cl_hold 15 = .ok (.iload_n 2, 1) := by decide +kernel
theorem d_Cl_hold_16 : decode b_Cl_hold 16 = .ok (.iaload, 1) := by decide +kernel
theorem d_Cl_hold_17 : decode b_Cl_hold 17 = .ok (.invokestatic 25, 3) := by decide +kernel
theorem d_Cl_hold_20 : decode b_Cl_hold 20 = .ok (.istore_n 3, 1) := by decide +kernel
theorem d_Cl_hold_21 : decode b_Cl_hold 21 = .ok (.aload_n 0, 1) := by decide +kernel
theorem d_Cl_hold_22 : decode b_Cl_hold 22 = .ok (.getfield 19, 3) := by decide +kernel
theorem d_Cl_hold_25 : decode b_Cl_hold 25 = .ok (.iload_n 2, 1) := by decide +kernel
theorem d_Cl_hold_26 : decode b_Cl_hold 26 = .ok (.iaload, 1) := by decide +kernel
theorem d_Cl_hold_27 : decode b_Cl_hold 27 = .ok (.ifCond .ne 23, 3) := by decide +kernel
theorem d_Cl_hold_30 : decode b_Cl_hold 30 = .ok (.iload_n 3, 1) := by decide +kernel
theorem d_Cl_hold_31 : decode b_Cl_hold 31 = .ok (.aload_n 0, 1) := by decide +kernel
theorem d_Cl_hold_32 : decode b_Cl_hold 32 = .ok (.getfield 22, 3) := by decide +kernel
theorem d_Cl_hold_35 : decode b_Cl_hold 35 = .ok (.iload_n 2, 1) := by decide +kernel
theorem d_Cl_hold_36 : decode b_Cl_hold 36 = .ok (.iaload, 1) := by decide +kernel
theorem d_Cl_hold_37 : decode b_Cl_hold 37 = .ok (.if_icmp .ne 7, 3) := by decide +kernel
theorem d_Cl_hold_40 : decode b_Cl_hold 40 = .ok (.iconst 1, 1) := by decide +kernel
theorem d_Cl_hold_41 : decode b_Cl_hold 41 = .ok (.goto 4, 3) := by decide +kernel
theorem d_Cl_hold_44 : decode b_Cl_hold 44 = .ok (.iconst 0, 1) := by decide +kernel
theorem d_Cl_hold_45 : decode b_Cl_hold 45 = .ok (.istore 4, 2) := by decide +kernel
theorem d_Cl_hold_47 : decode b_Cl_hold 47 = .ok (.goto 84, 3) := by decide +kernel
theorem d_Cl_hold_50 : decode b_Cl_hold 50 = .ok (.aload_n 0, 1) := by decide +kernel
theorem d_Cl_hold_51 : decode b_Cl_hold 51 = .ok (.getfield 19, 3) := by decide +kernel
theorem d_Cl_hold_54 : decode b_Cl_hold 54 = .ok (.iload_n 2, 1) := by decide +kernel
theorem d_Cl_hold_55 : decode b_Cl_hold 55 = .ok (.iaload, 1) := by decide +kernel
theorem d_Cl_hold_56 : decode b_Cl_hold 56 = .ok (.iconst 1, 1) := by decide +kernel
theorem d_Cl_hold_57 : decode b_Cl_hold 57 = .ok (.if_icmp .ne 23, 3) := by decide +kernel
theorem d_Cl_hold_60 : decode b_Cl_hold 60 = .ok (.iload_n 3, 1) := by decide +kernel
theorem d_Cl_hold_61 : decode b_Cl_hold 61 = .ok (.aload_n 0, 1) := by decide +kernel
theorem d_Cl_hold_62 : decode b_Cl_hold 62 = .ok (.getfield 22, 3) := by decide +kernel
theorem d_Cl_hold_65 : decode b_Cl_hold 65 = .ok (.iload_n 2, 1) := by decide +kernel
theorem d_Cl_hold_66 : decode b_Cl_hold 66 = .ok (.iaload, 1) := by decide +kernel
theorem d_Cl_hold_67 : decode b_Cl_hold 67 = .ok (.if_icmp .eq 7, 3) := by decide +kernel
theorem d_Cl_hold_70 : decode b_Cl_hold 70 = .ok (.iconst 1, 1) := by decide +kernel
theorem d_Cl_hold_71 : decode b_Cl_hold 71 = .ok (.goto 4, 3) := by decide +kernel
theorem d_Cl_hold_74 : decode b_Cl_hold 74 = .ok (.iconst 0, 1) := by decide +kernel
theorem d_Cl_hold_75 : decode b_Cl_hold 75 = .ok (.istore 4, 2) := by decide +kernel
theorem d_Cl_hold_77 : decode b_Cl_hold 77 = .ok (.goto 54, 3) := by decide +kernel
theorem d_Cl_hold_80 : decode b_Cl_hold 80 = .ok (.aload_n 0, 1) := by decide +kernel
theorem d_Cl_hold_81 : decode b_Cl_hold 81 = .ok (.getfield 19, 3) := by decide +kernel
theorem d_Cl_hold_84 : decode b_Cl_hold 84 = .ok (.iload_n 2, 1) := by decide +kernel
theorem d_Cl_hold_85 : decode b_Cl_hold 85 = .ok (.iaload, 1) := by decide +kernel
theorem d_Cl_hold_86 : decode b_Cl_hold 86 = .ok (.iconst 2, 1) := by decide +kernel
theorem d_Cl_hold_87 : decode b_Cl_hold 87 = .ok (.if_icmp .ne 27, 3) := by decide +kernel
theorem d_Cl_hold_90 : decode b_Cl_hold 90 = .ok (.iload_n 3, 1) := by decide +kernel
theorem d_Cl_hold_91 : decode b_Cl_hold 91 = .ok (.iload_n 1, 1) := by decide +kernel
theorem d_Cl_hold_92 : decode b_Cl_hold 92 = .ok (.aload_n 0, 1) := by decide +kernel
theorem d_Cl_hold_93 : decode b_Cl_hold 93 = .ok (.getfield 22, 3) := by decide +kernel
theorem d_Cl_hold_96 : decode b_Cl_hold 96 = .ok (.iload_n 2, 1) := by decide +kernel
theorem d_Cl_hold_97 : decode b_Cl_hold 97 = .ok (.iaload, 1) := by decide +kernel
theorem d_Cl_hold_98 : decode b_Cl_hold 98 = .ok (.invokestatic 25, 3) := by decide +kernel
theorem d_Cl_hold_101 : decode b_Cl_hold 101 = .ok (.if_icmp .ne 7, 3) := by decide +kernel
theorem d_Cl_hold_104 : decode b_Cl_hold 104 = .ok (.iconst 1, 1) := by decide +kernel
theorem d_Cl_hold_105 : decode b_Cl_hold 105 = .ok (.goto 4, 3) := by decide +kernel
theorem d_Cl_hold_108 : decode b_Cl_hold 108 = .ok (.iconst 0, 1) := by decide +kernel
theorem d_Cl_hold_109 : decode b_Cl_hold 109 = .ok (.istore 4, 2) := by decide +kernel
theorem d_Cl_hold_111 : decode b_Cl_hold 111 = .ok (.goto 20, 3) := by decide +kernel
theorem d_Cl_hold_114 : decode b_Cl_hold 114 = .ok (.iload_n 3, 1) := by decide +kernel
theorem d_Cl_hold_115 : decode b_Cl_hold 115 = .ok (.aload_n 0, 1) := by decide +kernel
theorem d_Cl_hold_116 : decode b_Cl_hold 116 = .ok (.getfield 22, 3) := by decide +kernel
theorem d_Cl_hold_119 : decode b_Cl_hold 119 = .ok (.iload_n 2, 1) := by decide +kernel
theorem d_Cl_hold_120 : decode b_Cl_hold 120 = .ok (.iaload, 1) := by decide +kernel
theorem d_Cl_hold_121 : decode b_Cl_hold 121 = .ok (.if_icmp .ge 7, 3) := by decide +kernel
theorem d_Cl_hold_124 : decode b_Cl_hold 124 = .ok (.iconst 1, 1) := by decide +kernel
theorem d_Cl_hold_125 : decode b_Cl_hold 125 = .ok (.goto 4, 3) := by decide +kernel
theorem d_Cl_hold_128 : decode b_Cl_hold 128 = .ok (.iconst 0, 1) := by decide +kernel
theorem d_Cl_hold_129 : decode b_Cl_hold 129 = .ok (.istore 4, 2) := by decide +kernel
theorem d_Cl_hold_131 : decode b_Cl_hold 131 = .ok (.iload 4, 2) := by decide +kernel
theorem d_Cl_hold_133 : decode b_Cl_hold 133 = .ok (.ifCond .ne 5, 3) := by decide +kernel
theorem d_Cl_hold_136 : decode b_Cl_hold 136 = .ok (.iconst 0, 1) := by decide +kernel
theorem d_Cl_hold_137 : decode b_Cl_hold 137 = .ok (.ireturn, 1) := by decide +kernel
theorem d_Cl_hold_138 : decode b_Cl_hold 138 = .ok (.iinc 2 1, 3) := by decide +kernel
theorem d_Cl_hold_141 : decode b_Cl_hold 141 = .ok (.goto (-139), 3) := by decide +kernel
theorem d_Cl_hold_144 : decode b_Cl_hold 144 = .ok (.iconst 1, 1) := by decide +kernel
theorem d_Cl_hold_145 : decode b_Cl_hold 145 = .ok (.ireturn, 1) := by decide +kernel
set_option maxRecDepth 100000 in
set_option maxHeartbeats 4000000 in
theorem S_Cl_hold_0 {G : Gc} {M : Mc} {Q : State → Prop} {K : Option Value → Hp → Prop} (hG : gok G) (hM : mok G M r_Cl_hold Q K) (v0 : Nat) (v1 : Int32) (h : Hp) (F : X G M Q 2 [(0, .ref v0), (1, .int v1), (2, .int 0)] [] h) : X G M Q 0 [(0, .ref v0), (1, .int v1)] [] h := by
  refine x_iconst (v := 0) hM d_Cl_hold_0 (by decide) ?_
  refine x_istore_n (lv2 := [(2, .int 0), (0, .ref v0), (1, .int v1)]) hM d_Cl_hold_1 rfl (Nat.le_of_ble_eq_true rfl) rfl ?_
  refine x_sub [1, 2, 0] rfl ?_
  exact F
set_option maxRecDepth 100000 in
set_option maxHeartbeats 4000000 in
theorem S_Cl_hold_2 {G : Gc} {M : Mc} {Q : State → Prop} {K : Option Value → Hp → Prop} (hG : gok G) (hM : mok G M r_Cl_hold Q K) (v0 : Nat) (v1 : Int32) (v2 : Int32) (h : Hp) (F : kT h v0 = 5 ∧ (((kI h v0 0) ≤ v2 → K (some (.int 1)) h) ∧ (¬ (kI h v0 0) ≤ v2 → (kT h v0 = 5 ∧ kR h v0 1 = some (rf h v0 1) ∧ (kT h (rf h v0 1) = 50 ∧ vp_in v2 (kN h (rf h v0 1)) ∧ (sem G r_WP_valueIn [.int v1, .int (kI h (rf h v0 1) (Int32.toNatClampNeg v2))] h (fun u2 h1 => ∃ x3 : Int32, u2 = some (.int x3) ∧ (kT h1 v0 = 5 ∧ kR h1 v0 2 = some (rf h1 v0 2) ∧ (kT h1 (rf h1 v0 2) = 50 ∧ vp_in v2 (kN h1 (rf h1 v0 2)) ∧ (((kI h1 (rf h1 v0 2) (Int32.toNatClampNeg v2)) = 0 → (kT h1 v0 = 5 ∧ kR h1 v0 3 = some (rf h1 v0 3) ∧ (kT h1 (rf h1 v0 3) = 50 ∧ vp_in v2 (kN h1 (rf h1 v0 3)) ∧ (∀ z38 : Int32, z38 = (if x3 = (kI h1 (rf h1 v0 3) (Int32.toNatClampNeg v2)) then 1 else 0) → ((z38 = 0 → K (some (.int 0)) h1) ∧ (¬ z38 = 0 → X G M Q 2 [(0, .ref v0), (1, .int v1), (2, .int (v2 + 1))] [] h1)))))) ∧ (¬ (kI h1 (rf h1 v0 2) (Int32.toNatClampNeg v2)) = 0 → (kT h1 v0 = 5 ∧ kR h1 v0 2 = some (rf h1 v0 2) ∧ (kT h1 (rf h1 v0 2) = 50 ∧ vp_in v2 (kN h1 (rf h1 v0 2)) ∧ (((kI h1 (rf h1 v0 2) (Int32.toNatClampNeg v2)) = 1 → (kT h1 v0 = 5 ∧ kR h1 v0 3 = some (rf h1 v0 3) ∧ (kT h1 (rf h1 v0 3) = 50 ∧ vp_in v2 (kN h1 (rf h1 v0 3)) ∧ (∀ z26 : Int32, z26 = (if x3 = (kI h1 (rf h1 v0 3) (Int32.toNatClampNeg v2)) then 0 else 1) → ((z26 = 0 → K (some (.int 0)) h1) ∧ (¬ z26 = 0 → X G M Q 2 [(0, .ref v0), (1, .int v1), (2, .int (v2 + 1))] [] h1)))))) ∧ (¬ (kI h1 (rf h1 v0 2) (Int32.toNatClampNeg v2)) = 1 → (kT h1 v0 = 5 ∧ kR h1 v0 2 = some (rf h1 v0 2) ∧ (kT h1 (rf h1 v0 2) = 50 ∧ vp_in v2 (kN h1 (rf h1 v0 2)) ∧ (((kI h1 (rf h1 v0 2) (Int32.toNatClampNeg v2)) = 2 → (kT h1 v0 = 5 ∧ kR h1 v0 3 = some (rf h1 v0 3) ∧ (kT h1 (rf h1 v0 3) = 50 ∧ vp_in v2 (kN h1 (rf h1 v0 3)) ∧ (sem G r_WP_valueIn [.int v1, .int (kI h1 (rf h1 v0 3) (Int32.toNatClampNeg v2))] h1 (fun u12 h11 => ∃ x13 : Int32, u12 = some (.int x13) ∧ (∀ z14 : Int32, z14 = (if x3 = x13 then 1 else 0) → ((z14 = 0 → K (some (.int 0)) h11) ∧ (¬ z14 = 0 → X G M Q 2 [(0, .ref v0), (1, .int v1), (2, .int (v2 + 1))] [] h11)))))))) ∧ (¬ (kI h1 (rf h1 v0 2) (Int32.toNatClampNeg v2)) = 2 → (kT h1 v0 = 5 ∧ kR h1 v0 3 = some (rf h1 v0 3) ∧ (kT h1 (rf h1 v0 3) = 50 ∧ vp_in v2 (kN h1 (rf h1 v0 3)) ∧ (∀ z4 : Int32, z4 = (if (kI h1 (rf h1 v0 3) (Int32.toNatClampNeg v2)) ≤ x3 then 0 else 1) → ((z4 = 0 → K (some (.int 0)) h1) ∧ (¬ z4 = 0 → X G M Q 2 [(0, .ref v0), (1, .int v1), (2, .int (v2 + 1))] [] h1)))))))))))))))))))))))) : X G M Q 2 [(0, .ref v0), (1, .int v1), (2, .int v2)] [] h := by
  refine x_iload_n hM d_Cl_hold_2 rfl 2 rfl ?_
  refine x_aload_n hM d_Cl_hold_3 rfl 0 rfl ?_
  obtain ⟨c55, F⟩ := F
  refine x_geti hG hM ck_Cl 0 (Nat.le_of_ble_eq_true rfl) rfl rfl w_43 rfl d_Cl_hold_4 c55 ?_
  refine x_icmp_ge (tgt := 144) hM d_Cl_hold_7 (by decide) (fun q54 => ?_) (fun q54 => ?_)
  · replace F := F.1 q54
    refine x_iconst (v := 1) hM d_Cl_hold_144 (by decide) ?_
    exact x_zreturn hM d_Cl_hold_145 rfl (Or.inr rfl) F
  · replace F := F.2 q54
    refine x_iload_n hM d_Cl_hold_10 rfl 1 rfl ?_
    refine x_aload_n hM d_Cl_hold_11 rfl 0 rfl ?_
    obtain ⟨c52, F⟩ := F
    obtain ⟨c53, F⟩ := F
    refine x_getr hG hM ck_Cl 1 (Nat.le_of_ble_eq_true rfl) rfl rfl w_48 rfl d_Cl_hold_12 c52 c53 ?_
    refine x_iload_n hM d_Cl_hold_15 rfl 2 rfl ?_
    obtain ⟨c50, F⟩ := F
    obtain ⟨c51, F⟩ := F
    refine x_iaload hG hM d_Cl_hold_16 c50 c51 ?_
    refine x_callSN hG hM (r' := r_WP_valueIn) [.int v1, .int (kI h (rf h v0 1) (Int32.toNatClampNeg v2))] rfl yk_WP_valueIn ⟨Nat.le_of_ble_eq_true rfl, Nat.le_of_ble_eq_true rfl⟩ w_557 w_558 rfl rfl (Nat.le_of_ble_eq_true rfl) d_Cl_hold_17 (sem_mono F ?_)
    intro u2 h1 F
    obtain ⟨x3, rfl, F⟩ := F
    refine x_istore_n (lv2 := [(3, .int x3), (0, .ref v0), (1, .int v1), (2, .int v2)]) hM d_Cl_hold_20 rfl (Nat.le_of_ble_eq_true rfl) rfl ?_
    refine x_aload_n hM d_Cl_hold_21 rfl 1 rfl ?_
    obtain ⟨c48, F⟩ := F
    obtain ⟨c49, F⟩ := F
    refine x_getr hG hM ck_Cl 2 (Nat.le_of_ble_eq_true rfl) rfl rfl w_50 rfl d_Cl_hold_22 c48 c49 ?_
    refine x_iload_n hM d_Cl_hold_25 rfl 3 rfl ?_
    obtain ⟨c46, F⟩ := F
    obtain ⟨c47, F⟩ := F
    refine x_iaload hG hM d_Cl_hold_26 c46 c47 ?_
    refine x_if_ne (tgt := 50) hM d_Cl_hold_27 (by decide) (fun q45 => ?_) (fun q45 => ?_)
    · replace F := F.2 q45
      refine x_aload_n hM d_Cl_hold_50 rfl 1 rfl ?_
      obtain ⟨c36, F⟩ := F
      obtain ⟨c37, F⟩ := F
      refine x_getr hG hM ck_Cl 2 (Nat.le_of_ble_eq_true rfl) rfl rfl w_50 rfl d_Cl_hold_51 c36 c37 ?_
      refine x_iload_n hM d_Cl_hold_54 rfl 3 rfl ?_
      obtain ⟨c34, F⟩ := F
      obtain ⟨c35, F⟩ := F
      refine x_iaload hG hM d_Cl_hold_55 c34 c35 ?_
      refine x_iconst (v := 1) hM d_Cl_hold_56 (by decide) ?_
      refine x_icmp_ne (tgt := 80) hM d_Cl_hold_57 (by decide) (fun q33 => ?_) (fun q33 => ?_)
      · replace F := F.2 q33
        refine x_aload_n hM d_Cl_hold_80 rfl 1 rfl ?_
        obtain ⟨c24, F⟩ := F
        obtain ⟨c25, F⟩ := F
        refine x_getr hG hM ck_Cl 2 (Nat.le_of_ble_eq_true rfl) rfl rfl w_50 rfl d_Cl_hold_81 c24 c25 ?_
        refine x_iload_n hM d_Cl_hold_84 rfl 3 rfl ?_
        obtain ⟨c22, F⟩ := F
        obtain ⟨c23, F⟩ := F
        refine x_iaload hG hM d_Cl_hold_85 c22 c23 ?_
        refine x_iconst (v := 2) hM d_Cl_hold_86 (by decide) ?_
        refine x_icmp_ne (tgt := 114) hM d_Cl_hold_87 (by decide) (fun q21 => ?_) (fun q21 => ?_)
        · replace F := F.2 q21
          refine x_iload_n hM d_Cl_hold_114 rfl 0 rfl ?_
          refine x_aload_n hM d_Cl_hold_115 rfl 1 rfl ?_
          obtain ⟨c9, F⟩ := F
          obtain ⟨c10, F⟩ := F
          refine x_getr hG hM ck_Cl 3 (Nat.le_of_ble_eq_true rfl) rfl rfl w_52 rfl d_Cl_hold_116 c9 c10 ?_
          refine x_iload_n hM d_Cl_hold_119 rfl 3 rfl ?_
          obtain ⟨c7, F⟩ := F
          obtain ⟨c8, F⟩ := F
          refine x_iaload hG hM d_Cl_hold_120 c7 c8 ?_
          have JJ : ∀ (z4 : Int32) (ez4 : z4 = (if (kI h1 (rf h1 v0 3) (Int32.toNatClampNeg v2)) ≤ x3 then 0 else 1)), X G M Q 129 [(0, .ref v0), (1, .int v1), (2, .int v2)] [.int z4] h1 := by
            intro z4 ez4
            replace F := F _ ez4
            refine x_istore (lv2 := [(4, .int z4), (0, .ref v0), (1, .int v1), (2, .int v2)]) hM d_Cl_hold_129 (Nat.le_of_ble_eq_true rfl) rfl ?_
            refine x_iload hM d_Cl_hold_131 0 rfl ?_
            refine x_if_ne (tgt := 138) hM d_Cl_hold_133 (by decide) (fun q5 => ?_) (fun q5 => ?_)
            · replace F := F.2 q5
              refine x_iinc (v := (v2 + 1)) (lv2 := [(2, .int (v2 + 1)), (4, .int z4), (0, .ref v0), (1, .int v1)]) hM d_Cl_hold_138 (j := 3) rfl rfl (Nat.le_of_ble_eq_true rfl) rfl ?_
              refine x_goto (tgt := 2) hM d_Cl_hold_141 (by decide) ?_
              refine x_sub [2, 3, 0] rfl ?_
              exact F
            · replace F := F.1 q5
              refine x_iconst (v := 0) hM d_Cl_hold_136 (by decide) ?_
              exact x_zreturn hM d_Cl_hold_137 rfl (Or.inl rfl) F
          refine x_icmp_ge (tgt := 128) hM d_Cl_hold_121 (by decide) (fun q6 => ?_) (fun q6 => ?_)
          · refine x_iconst (v := 0) hM d_Cl_hold_128 (by decide) ?_
            refine x_sub [1, 2, 3] rfl ?_
            exact JJ _ (Eq.symm (if_pos q6))
          · refine x_iconst (v := 1) hM d_Cl_hold_124 (by decide) ?_
            refine x_goto (tgt := 129) hM d_Cl_hold_125 (by decide) ?_
            refine x_sub [1, 2, 3] rfl ?_
            exact JJ _ (Eq.symm (if_neg q6))
        · replace F := F.1 q21
          refine x_iload_n hM d_Cl_hold_90 rfl 0 rfl ?_
          refine x_iload_n hM d_Cl_hold_91 rfl 2 rfl ?_
          refine x_aload_n hM d_Cl_hold_92 rfl 1 rfl ?_
          obtain ⟨c19, F⟩ := F
          obtain ⟨c20, F⟩ := F
          refine x_getr hG hM ck_Cl 3 (Nat.le_of_ble_eq_true rfl) rfl rfl w_52 rfl d_Cl_hold_93 c19 c20 ?_
          refine x_iload_n hM d_Cl_hold_96 rfl 3 rfl ?_
          obtain ⟨c17, F⟩ := F
          obtain ⟨c18, F⟩ := F
          refine x_iaload hG hM d_Cl_hold_97 c17 c18 ?_
          refine x_callSN hG hM (r' := r_WP_valueIn) [.int v1, .int (kI h1 (rf h1 v0 3) (Int32.toNatClampNeg v2))] rfl yk_WP_valueIn ⟨Nat.le_of_ble_eq_true rfl, Nat.le_of_ble_eq_true rfl⟩ w_557 w_558 rfl rfl (Nat.le_of_ble_eq_true rfl) d_Cl_hold_98 (sem_mono F ?_)
          intro u12 h11 F
          obtain ⟨x13, rfl, F⟩ := F
          have JJ : ∀ (z14 : Int32) (ez14 : z14 = (if x3 = x13 then 1 else 0)), X G M Q 109 [(0, .ref v0), (1, .int v1), (2, .int v2)] [.int z14] h11 := by
            intro z14 ez14
            replace F := F _ ez14
            refine x_istore (lv2 := [(4, .int z14), (0, .ref v0), (1, .int v1), (2, .int v2)]) hM d_Cl_hold_109 (Nat.le_of_ble_eq_true rfl) rfl ?_
            refine x_goto (tgt := 131) hM d_Cl_hold_111 (by decide) ?_
            refine x_iload hM d_Cl_hold_131 0 rfl ?_
            refine x_if_ne (tgt := 138) hM d_Cl_hold_133 (by decide) (fun q15 => ?_) (fun q15 => ?_)
            · replace F := F.2 q15
              refine x_iinc (v := (v2 + 1)) (lv2 := [(2, .int (v2 + 1)), (4, .int z14), (0, .ref v0), (1, .int v1)]) hM d_Cl_hold_138 (j := 3) rfl rfl (Nat.le_of_ble_eq_true rfl) rfl ?_
              refine x_goto (tgt := 2) hM d_Cl_hold_141 (by decide) ?_
              refine x_sub [2, 3, 0] rfl ?_
              exact F
            · replace F := F.1 q15
              refine x_iconst (v := 0) hM d_Cl_hold_136 (by decide) ?_
              exact x_zreturn hM d_Cl_hold_137 rfl (Or.inl rfl) F
          refine x_icmp_ne (tgt := 108) hM d_Cl_hold_101 (by decide) (fun q16 => ?_) (fun q16 => ?_)
          · refine x_iconst (v := 0) hM d_Cl_hold_108 (by decide) ?_
            refine x_sub [1, 2, 3] rfl ?_
            exact JJ _ (Eq.symm (if_neg q16))
          · refine x_iconst (v := 1) hM d_Cl_hold_104 (by decide) ?_
            refine x_goto (tgt := 109) hM d_Cl_hold_105 (by decide) ?_
            refine x_sub [1, 2, 3] rfl ?_
            exact JJ _ (Eq.symm (if_pos q16))
      · replace F := F.1 q33
        refine x_iload_n hM d_Cl_hold_60 rfl 0 rfl ?_
        refine x_aload_n hM d_Cl_hold_61 rfl 1 rfl ?_
        obtain ⟨c31, F⟩ := F
        obtain ⟨c32, F⟩ := F
        refine x_getr hG hM ck_Cl 3 (Nat.le_of_ble_eq_true rfl) rfl rfl w_52 rfl d_Cl_hold_62 c31 c32 ?_
        refine x_iload_n hM d_Cl_hold_65 rfl 3 rfl ?_
        obtain ⟨c29, F⟩ := F
        obtain ⟨c30, F⟩ := F
        refine x_iaload hG hM d_Cl_hold_66 c29 c30 ?_
        have JJ : ∀ (z26 : Int32) (ez26 : z26 = (if x3 = (kI h1 (rf h1 v0 3) (Int32.toNatClampNeg v2)) then 0 else 1)), X G M Q 75 [(0, .ref v0), (1, .int v1), (2, .int v2)] [.int z26] h1 := by
          intro z26 ez26
          replace F := F _ ez26
          refine x_istore (lv2 := [(4, .int z26), (0, .ref v0), (1, .int v1), (2, .int v2)]) hM d_Cl_hold_75 (Nat.le_of_ble_eq_true rfl) rfl ?_
          refine x_goto (tgt := 131) hM d_Cl_hold_77 (by decide) ?_
          refine x_iload hM d_Cl_hold_131 0 rfl ?_
          refine x_if_ne (tgt := 138) hM d_Cl_hold_133 (by decide) (fun q27 => ?_) (fun q27 => ?_)
          · replace F := F.2 q27
            refine x_iinc (v := (v2 + 1)) (lv2 := [(2, .int (v2 + 1)), (4, .int z26), (0, .ref v0), (1, .int v1)]) hM d_Cl_hold_138 (j := 3) rfl rfl (Nat.le_of_ble_eq_true rfl) rfl ?_
            refine x_goto (tgt := 2) hM d_Cl_hold_141 (by decide) ?_
            refine x_sub [2, 3, 0] rfl ?_
            exact F
          · replace F := F.1 q27
            refine x_iconst (v := 0) hM d_Cl_hold_136 (by decide) ?_
            exact x_zreturn hM d_Cl_hold_137 rfl (Or.inl rfl) F
        refine x_icmp_eq (tgt := 74) hM d_Cl_hold_67 (by decide) (fun q28 => ?_) (fun q28 => ?_)
        · refine x_iconst (v := 0) hM d_Cl_hold_74 (by decide) ?_
          refine x_sub [1, 2, 3] rfl ?_
          exact JJ _ (Eq.symm (if_pos q28))
        · refine x_iconst (v := 1) hM d_Cl_hold_70 (by decide) ?_
          refine x_goto (tgt := 75) hM d_Cl_hold_71 (by decide) ?_
          refine x_sub [1, 2, 3] rfl ?_
          exact JJ _ (Eq.symm (if_neg q28))
    · replace F := F.1 q45
      refine x_iload_n hM d_Cl_hold_30 rfl 0 rfl ?_
      refine x_aload_n hM d_Cl_hold_31 rfl 1 rfl ?_
      obtain ⟨c43, F⟩ := F
      obtain ⟨c44, F⟩ := F
      refine x_getr hG hM ck_Cl 3 (Nat.le_of_ble_eq_true rfl) rfl rfl w_52 rfl d_Cl_hold_32 c43 c44 ?_
      refine x_iload_n hM d_Cl_hold_35 rfl 3 rfl ?_
      obtain ⟨c41, F⟩ := F
      obtain ⟨c42, F⟩ := F
      refine x_iaload hG hM d_Cl_hold_36 c41 c42 ?_
      have JJ : ∀ (z38 : Int32) (ez38 : z38 = (if x3 = (kI h1 (rf h1 v0 3) (Int32.toNatClampNeg v2)) then 1 else 0)), X G M Q 45 [(0, .ref v0), (1, .int v1), (2, .int v2)] [.int z38] h1 := by
        intro z38 ez38
        replace F := F _ ez38
        refine x_istore (lv2 := [(4, .int z38), (0, .ref v0), (1, .int v1), (2, .int v2)]) hM d_Cl_hold_45 (Nat.le_of_ble_eq_true rfl) rfl ?_
        refine x_goto (tgt := 131) hM d_Cl_hold_47 (by decide) ?_
        refine x_iload hM d_Cl_hold_131 0 rfl ?_
        refine x_if_ne (tgt := 138) hM d_Cl_hold_133 (by decide) (fun q39 => ?_) (fun q39 => ?_)
        · replace F := F.2 q39
          refine x_iinc (v := (v2 + 1)) (lv2 := [(2, .int (v2 + 1)), (4, .int z38), (0, .ref v0), (1, .int v1)]) hM d_Cl_hold_138 (j := 3) rfl rfl (Nat.le_of_ble_eq_true rfl) rfl ?_
          refine x_goto (tgt := 2) hM d_Cl_hold_141 (by decide) ?_
          refine x_sub [2, 3, 0] rfl ?_
          exact F
        · replace F := F.1 q39
          refine x_iconst (v := 0) hM d_Cl_hold_136 (by decide) ?_
          exact x_zreturn hM d_Cl_hold_137 rfl (Or.inl rfl) F
      refine x_icmp_ne (tgt := 44) hM d_Cl_hold_37 (by decide) (fun q40 => ?_) (fun q40 => ?_)
      · refine x_iconst (v := 0) hM d_Cl_hold_44 (by decide) ?_
        refine x_sub [1, 2, 3] rfl ?_
        exact JJ _ (Eq.symm (if_neg q40))
      · refine x_iconst (v := 1) hM d_Cl_hold_40 (by decide) ?_
        refine x_goto (tgt := 45) hM d_Cl_hold_41 (by decide) ?_
        refine x_sub [1, 2, 3] rfl ?_
        exact JJ _ (Eq.symm (if_pos q40))
theorem d_Cl_isLastOfItsThing_0 : decode b_Cl_isLastOfItsThing 0 = .ok (.iload_n 1, 1) := by decide +kernel
theorem d_Cl_isLastOfItsThing_1 : decode b_Cl_isLastOfItsThing 1 = .ok (.iconst 1, 1) := by decide +kernel
theorem d_Cl_isLastOfItsThing_2 : decode b_Cl_isLastOfItsThing 2 = .ok (.iadd, 1) := by decide +kernel
theorem d_Cl_isLastOfItsThing_3 : decode b_Cl_isLastOfItsThing 3 = .ok (.istore_n 2, 1) := by decide +kernel
theorem d_Cl_isLastOfItsThing_4 : decode b_Cl_isLastOfItsThing 4 = .ok (.iload_n 2, 1) := by decide +kernel
theorem d_Cl_isLastOfItsThing_5 : decode b_Cl_isLastOfItsThing 5 = .ok (.aload_n 0, 1) := by decide +kernel
theorem d_Cl_isLastOfItsThing_6 : decode b_Cl_isLastOfItsThing 6 = .ok (.getfield 9, 3) := by decide +kernel
theorem d_Cl_isLastOfItsThing_9 : decode b_Cl_isLastOfItsThing 9 = .ok (.if_icmp .ge 26, 3) := by decide +kernel
theorem d_Cl_isLastOfItsThing_12 : decode b_Cl_isLastOfItsThing 12 = .ok (.aload_n 0, 1) := by decide +kernel
theorem d_Cl_isLastOfItsThing_13 : decode b_Cl_isLastOfItsThing 13 = .ok (.getfield 15, 3) := by decide +kernel
theorem d_Cl_isLastOfItsThing_16 : decode b_Cl_isLastOfItsThing 16 = .ok (.iload_n 2, 1) := by decide +kernel
theorem d_Cl_isLastOfItsThing_17 : decode b_Cl_isLastOfItsThing 17 = .ok (.iaload, 1) := by decide +kernel
theorem d_Cl_isLastOfItsThing_18 : decode b_Cl_isLastOfItsThing 18 = .ok (.aload_n 0, 1) := by decide +kernel
theorem d_Cl_isLastOfItsThing_19 : decode b_Cl_isLastOfItsThing 19 = .ok (.getfield 15, 3) := by decide +kernel
theorem d_Cl_isLastOfItsThing_22 : decode b_Cl_isLastOfItsThing 22 = .ok (.iload_n 1, 1) := by decide +kernel
theorem d_Cl_isLastOfItsThing_23 : decode b_Cl_isLastOfItsThing 23 = .ok (.iaload, 1) := by decide +kernel
theorem d_Cl_isLastOfItsThing_24 : decode b_Cl_isLastOfItsThing 24 = .ok (.if_icmp .ne 5, 3) := by decide +kernel
theorem d_Cl_isLastOfItsThing_27 : decode b_Cl_isLastOfItsThing 27 = .ok (.iconst 0, 1) := by decide +kernel
theorem d_Cl_isLastOfItsThing_28 : decode b_Cl_isLastOfItsThing 28 = .ok (.ireturn, 1) := by decide +kernel
theorem d_Cl_isLastOfItsThing_29 : decode b_Cl_isLastOfItsThing 29 = .ok (.iinc 2 1, 3) := by decide +kernel
theorem d_Cl_isLastOfItsThing_32 : decode b_Cl_isLastOfItsThing 32 = .ok (.goto (-28), 3) := by decide +kernel
theorem d_Cl_isLastOfItsThing_35 : decode b_Cl_isLastOfItsThing 35 = .ok (.iconst 1, 1) := by decide +kernel
theorem d_Cl_isLastOfItsThing_36 : decode b_Cl_isLastOfItsThing 36 = .ok (.ireturn, 1) := by decide +kernel
set_option maxRecDepth 100000 in
set_option maxHeartbeats 4000000 in
theorem S_Cl_isLastOfItsThing_0 {G : Gc} {M : Mc} {Q : State → Prop} {K : Option Value → Hp → Prop} (hG : gok G) (hM : mok G M r_Cl_isLastOfItsThing Q K) (v0 : Nat) (v1 : Int32) (h : Hp) (F : X G M Q 4 [(0, .ref v0), (1, .int v1), (2, .int (v1 + 1))] [] h) : X G M Q 0 [(0, .ref v0), (1, .int v1)] [] h := by
  refine x_iload_n hM d_Cl_isLastOfItsThing_0 rfl 1 rfl ?_
  refine x_iconst (v := 1) hM d_Cl_isLastOfItsThing_1 (by decide) ?_
  refine x_iadd hM d_Cl_isLastOfItsThing_2 ?_
  refine x_istore_n (lv2 := [(2, .int (v1 + 1)), (0, .ref v0), (1, .int v1)]) hM d_Cl_isLastOfItsThing_3 rfl (Nat.le_of_ble_eq_true rfl) rfl ?_
  refine x_sub [1, 2, 0] rfl ?_
  exact F
set_option maxRecDepth 100000 in
set_option maxHeartbeats 4000000 in
theorem S_Cl_isLastOfItsThing_4 {G : Gc} {M : Mc} {Q : State → Prop} {K : Option Value → Hp → Prop} (hG : gok G) (hM : mok G M r_Cl_isLastOfItsThing Q K) (v0 : Nat) (v1 : Int32) (v2 : Int32) (h : Hp) (F : kT h v0 = 5 ∧ (((kI h v0 0) ≤ v2 → K (some (.int 1)) h) ∧ (¬ (kI h v0 0) ≤ v2 → (kT h v0 = 5 ∧ kR h v0 1 = some (rf h v0 1) ∧ (kT h (rf h v0 1) = 50 ∧ vp_in v2 (kN h (rf h v0 1)) ∧ (kT h v0 = 5 ∧ kR h v0 1 = some (rf h v0 1) ∧ (kT h (rf h v0 1) = 50 ∧ vp_in v1 (kN h (rf h v0 1)) ∧ (((kI h (rf h v0 1) (Int32.toNatClampNeg v2)) = (kI h (rf h v0 1) (Int32.toNatClampNeg v1)) → K (some (.int 0)) h) ∧ (¬ (kI h (rf h v0 1) (Int32.toNatClampNeg v2)) = (kI h (rf h v0 1) (Int32.toNatClampNeg v1)) → X G M Q 4 [(0, .ref v0), (1, .int v1), (2, .int (v2 + 1))] [] h))))))))) : X G M Q 4 [(0, .ref v0), (1, .int v1), (2, .int v2)] [] h := by
  refine x_iload_n hM d_Cl_isLastOfItsThing_4 rfl 2 rfl ?_
  refine x_aload_n hM d_Cl_isLastOfItsThing_5 rfl 0 rfl ?_
  obtain ⟨c11, F⟩ := F
  refine x_geti hG hM ck_Cl 0 (Nat.le_of_ble_eq_true rfl) rfl rfl w_43 rfl d_Cl_isLastOfItsThing_6 c11 ?_
  refine x_icmp_ge (tgt := 35) hM d_Cl_isLastOfItsThing_9 (by decide) (fun q10 => ?_) (fun q10 => ?_)
  · replace F := F.1 q10
    refine x_iconst (v := 1) hM d_Cl_isLastOfItsThing_35 (by decide) ?_
    exact x_zreturn hM d_Cl_isLastOfItsThing_36 rfl (Or.inr rfl) F
  · replace F := F.2 q10
    refine x_aload_n hM d_Cl_isLastOfItsThing_12 rfl 0 rfl ?_
    obtain ⟨c8, F⟩ := F
    obtain ⟨c9, F⟩ := F
    refine x_getr hG hM ck_Cl 1 (Nat.le_of_ble_eq_true rfl) rfl rfl w_48 rfl d_Cl_isLastOfItsThing_13 c8 c9 ?_
    refine x_iload_n hM d_Cl_isLastOfItsThing_16 rfl 2 rfl ?_
    obtain ⟨c6, F⟩ := F
    obtain ⟨c7, F⟩ := F
    refine x_iaload hG hM d_Cl_isLastOfItsThing_17 c6 c7 ?_
    refine x_aload_n hM d_Cl_isLastOfItsThing_18 rfl 0 rfl ?_
    obtain ⟨c4, F⟩ := F
    obtain ⟨c5, F⟩ := F
    refine x_getr hG hM ck_Cl 1 (Nat.le_of_ble_eq_true rfl) rfl rfl w_48 rfl d_Cl_isLastOfItsThing_19 c4 c5 ?_
    refine x_iload_n hM d_Cl_isLastOfItsThing_22 rfl 1 rfl ?_
    obtain ⟨c2, F⟩ := F
    obtain ⟨c3, F⟩ := F
    refine x_iaload hG hM d_Cl_isLastOfItsThing_23 c2 c3 ?_
    refine x_icmp_ne (tgt := 29) hM d_Cl_isLastOfItsThing_24 (by decide) (fun q1 => ?_) (fun q1 => ?_)
    · replace F := F.2 q1
      refine x_iinc (v := (v2 + 1)) (lv2 := [(2, .int (v2 + 1)), (0, .ref v0), (1, .int v1)]) hM d_Cl_isLastOfItsThing_29 (j := 2) rfl rfl (Nat.le_of_ble_eq_true rfl) rfl ?_
      refine x_goto (tgt := 4) hM d_Cl_isLastOfItsThing_32 (by decide) ?_
      refine x_sub [1, 2, 0] rfl ?_
      exact F
    · replace F := F.1 q1
      refine x_iconst (v := 0) hM d_Cl_isLastOfItsThing_27 (by decide) ?_
      exact x_zreturn hM d_Cl_isLastOfItsThing_28 rfl (Or.inl rfl) F
