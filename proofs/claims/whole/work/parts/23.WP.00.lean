theorem d_WP_init_0 : decode b_WP_init 0 = .ok (.aload_n 0, 1) := by decide +kernel
theorem d_WP_init_1 : decode b_WP_init 1 = .ok (.invokespecial 3, 3) := by decide +kernel
theorem d_WP_init_4 : decode b_WP_init 4 = .ok (.aload_n 0, 1) := by decide +kernel
theorem d_WP_init_5 : decode b_WP_init 5 = .ok (.new 9, 3) := by decide +kernel
theorem d_WP_init_8 : decode b_WP_init 8 = .ok (.dup, 1) := by decide +kernel
theorem d_WP_init_9 : decode b_WP_init 9 = .ok (.invokespecial 11, 3) := by decide +kernel
theorem d_WP_init_12 : decode b_WP_init 12 = .ok (.putfield 12, 3) := by decide +kernel
theorem d_WP_init_15 : decode b_WP_init 15 = .ok (.aload_n 0, 1) := by decide +kernel
theorem d_WP_init_16 : decode b_WP_init 16 = .ok (.new 16, 3) := by decide +kernel
theorem d_WP_init_19 : decode b_WP_init 19 = .ok (.dup, 1) := by decide +kernel
theorem d_WP_init_20 : decode b_WP_init 20 = .ok (.invokespecial 18, 3) := by decide +kernel
theorem d_WP_init_23 : decode b_WP_init 23 = .ok (.putfield 19, 3) := by decide +kernel
theorem d_WP_init_26 : decode b_WP_init 26 = .ok (.aload_n 0, 1) := by decide +kernel
theorem d_WP_init_27 : decode b_WP_init 27 = .ok (.new 23, 3) := by decide +kernel
theorem d_WP_init_30 : decode b_WP_init 30 = .ok (.dup, 1) := by decide +kernel
theorem d_WP_init_31 : decode b_WP_init 31 = .ok (.invokespecial 25, 3) := by decide +kernel
theorem d_WP_init_34 : decode b_WP_init 34 = .ok (.putfield 26, 3) := by decide +kernel
theorem d_WP_init_37 : decode b_WP_init 37 = .ok (.aload_n 0, 1) := by decide +kernel
theorem d_WP_init_38 : decode b_WP_init 38 = .ok (.new 30, 3) := by decide +kernel
theorem d_WP_init_41 : decode b_WP_init 41 = .ok (.dup, 1) := by decide +kernel
theorem d_WP_init_42 : decode b_WP_init 42 = .ok (.invokespecial 32, 3) := by decide +kernel
theorem d_WP_init_45 : decode b_WP_init 45 = .ok (.putfield 33, 3) := by decide +kernel
theorem d_WP_init_48 : decode b_WP_init 48 = .ok (.aload_n 0, 1) := by decide +kernel
theorem d_WP_init_49 : decode b_WP_init 49 = .ok (.new 37, 3) := by decide +kernel
theorem d_WP_init_52 : decode b_WP_init 52 = .ok (.dup, 1) := by decide +kernel
theorem d_WP_init_53 : decode b_WP_init 53 = .ok (.invokespecial 39, 3) := by decide +kernel
theorem d_WP_init_56 : decode b_WP_init 56 = .ok (.putfield 40, 3) := by decide +kernel
theorem d_WP_init_59 : decode b_WP_init 59 = .ok (.aload_n 0, 1) := by decide +kernel
theorem d_WP_init_60 : decode b_WP_init 60 = .ok (.new 44, 3) := by decide +kernel
theorem d_WP_init_63 : decode b_WP_init 63 = .ok (.dup, 1) := by decide +kernel
theorem d_WP_init_64 : decode b_WP_init 64 = .ok (.invokespecial 46, 3) := by decide +kernel
theorem d_WP_init_67 : decode b_WP_init 67 = .ok (.putfield 47, 3) := by decide +kernel
theorem d_WP_init_70 : decode b_WP_init 70 = .ok (.aload_n 0, 1) := by decide +kernel
theorem d_WP_init_71 : decode b_WP_init 71 = .ok (.new 51, 3) := by decide +kernel
theorem d_WP_init_74 : decode b_WP_init 74 = .ok (.dup, 1) := by decide +kernel
theorem d_WP_init_75 : decode b_WP_init 75 = .ok (.invokespecial 53, 3) := by decide +kernel
theorem d_WP_init_78 : decode b_WP_init 78 = .ok (.putfield 54, 3) := by decide +kernel
theorem d_WP_init_81 : decode b_WP_init 81 = .ok (.aload_n 0, 1) := by decide +kernel
theorem d_WP_init_82 : decode b_WP_init 82 = .ok (.new 58, 3) := by decide +kernel
theorem d_WP_init_85 : decode b_WP_init 85 = .ok (.dup, 1) := by decide +kernel
theorem d_WP_init_86 : decode b_WP_init 86 = .ok (.invokespecial 60, 3) := by decide +kernel
theorem d_WP_init_89 : decode b_WP_init 89 = .ok (.putfield 61, 3) := by decide +kernel
theorem d_WP_init_92 : decode b_WP_init 92 = .ok (.aload_n 0, 1) := by decide +kernel
theorem d_WP_init_93 : decode b_WP_init 93 = .ok (.iconst 0, 1) := by decide +kernel
theorem d_WP_init_94 : decode b_WP_init 94 = .ok (.putfield 65, 3) := by decide +kernel
theorem d_WP_init_97 : decode b_WP_init 97 = .ok (.aload_n 0, 1) := by decide +kernel
theorem d_WP_init_98 : decode b_WP_init 98 = .ok (.iconst 0, 1) := by decide +kernel
theorem d_WP_init_99 : decode b_WP_init 99 = .ok (.putfield 69, 3) := by decide +kernel
theorem d_WP_init_102 : decode b_WP_init 102 = .ok (.aload_n 0, 1) := by decide +kernel
theorem d_WP_init_103 : decode b_WP_init 103 = .ok (.lconst 0, 1) := by decide +kernel
theorem d_WP_init_104 : decode b_WP_init 104 = .ok (.putfield 72, 3) := by decide +kernel
theorem d_WP_init_107 : decode b_WP_init 107 = .ok (.return_, 1) := by decide +kernel
set_option maxRecDepth 100000 in
set_option maxHeartbeats 4000000 in
theorem S_WP_init_0 {G : Gc} {M : Mc} {Q : State → Prop} {K : Option Value → Hp → Prop} (hG : gok G) (hM : mok G M r_WP_init Q K) (v0 : Nat) (h : Hp) (F : kX h + 1 ≤ gB G + capC ∧ kS h + 10 ≤ capS ∧ (∀ h1 : Hp, h1 = wA h 2 0 10 → (sem G r_Wo_init [.ref (kX h)] h1 (fun u3 h2 => u3 = none ∧ (kT h2 v0 = 1 ∧ (∀ h4 : Hp, h4 = wR h2 v0 0 (some (kX h)) → (kX h4 + 1 ≤ gB G + capC ∧ kS h4 + 4 ≤ capS ∧ (∀ h5 : Hp, h5 = wA h4 5 0 4 → (sem G r_Cl_init [.ref (kX h4)] h5 (fun u7 h6 => u7 = none ∧ (kT h6 v0 = 1 ∧ (∀ h8 : Hp, h8 = wR h6 v0 1 (some (kX h4)) → (kX h8 + 1 ≤ gB G + capC ∧ kS h8 + 8 ≤ capS ∧ (∀ h9 : Hp, h9 = wA h8 6 0 8 → (sem G r_Co_init [.ref (kX h8)] h9 (fun u11 h10 => u11 = none ∧ (kT h10 v0 = 1 ∧ (∀ h12 : Hp, h12 = wR h10 v0 2 (some (kX h8)) → (kX h12 + 1 ≤ gB G + capC ∧ kS h12 + 4 ≤ capS ∧ (∀ h13 : Hp, h13 = wA h12 7 0 4 → (sem G r_Ch_init [.ref (kX h12)] h13 (fun u15 h14 => u15 = none ∧ (kT h14 v0 = 1 ∧ (∀ h16 : Hp, h16 = wR h14 v0 3 (some (kX h12)) → (kX h16 + 1 ≤ gB G + capC ∧ kS h16 + 5 ≤ capS ∧ (∀ h17 : Hp, h17 = wA h16 8 0 5 → (sem G r_Re_init [.ref (kX h16)] h17 (fun u19 h18 => u19 = none ∧ (kT h18 v0 = 1 ∧ (∀ h20 : Hp, h20 = wR h18 v0 4 (some (kX h16)) → (kX h20 + 1 ≤ gB G + capC ∧ kS h20 + 9 ≤ capS ∧ (∀ h21 : Hp, h21 = wA h20 9 0 9 → (sem G r_Wi_init [.ref (kX h20)] h21 (fun u23 h22 => u23 = none ∧ (kT h22 v0 = 1 ∧ (∀ h24 : Hp, h24 = wR h22 v0 5 (some (kX h20)) → (kX h24 + 1 ≤ gB G + capC ∧ kS h24 + 18 ≤ capS ∧ (∀ h25 : Hp, h25 = wA h24 10 0 18 → (sem G r_Ki_init [.ref (kX h24)] h25 (fun u27 h26 => u27 = none ∧ (kT h26 v0 = 1 ∧ (∀ h28 : Hp, h28 = wR h26 v0 6 (some (kX h24)) → (kX h28 + 1 ≤ gB G + capC ∧ kS h28 + 5 ≤ capS ∧ (∀ h29 : Hp, h29 = wA h28 11 0 5 → (sem G r_Se_init [.ref (kX h28)] h29 (fun u31 h30 => u31 = none ∧ (kT h30 v0 = 1 ∧ (∀ h32 : Hp, h32 = wR h30 v0 7 (some (kX h28)) → (kT h32 v0 = 1 ∧ (∀ h33 : Hp, h33 = wI h32 v0 8 0 → (kT h33 v0 = 1 ∧ (∀ h34 : Hp, h34 = wI h33 v0 9 0 → (kT h34 v0 = 1 ∧ (∀ h35 : Hp, h35 = wL h34 v0 10 0 → K none h35)))))))))))))))))))))))))))))))))))))))))))))))))))))) : X G M Q 0 [(0, .ref v0)] [] h := by
  refine x_aload_n hM d_WP_init_0 rfl 0 rfl ?_
  refine x_objInit hG hM rfl w_21 w_22 w_objcode d_WP_init_1 (Nat.le_of_ble_eq_true rfl) (Nat.le_of_ble_eq_true rfl) (Nat.le_of_ble_eq_true rfl) ?_
  refine x_aload_n hM d_WP_init_4 rfl 0 rfl ?_
  obtain ⟨c61, F⟩ := F
  obtain ⟨c62, F⟩ := F
  obtain ⟨h1, eh1⟩ : ∃ z : Hp, z = wA h 2 0 10 := ⟨_, rfl⟩
  replace F := F h1 eh1
  refine x_new hG hM ck_Wo rfl w_24 w_25 w_2 dv_Wo d_WP_init_5 c61 c62 ?_
  rw [← eh1]
  clear eh1
  refine x_dup hM d_WP_init_8 rfl ?_
  refine x_callI hG hM (r' := r_Wo_init) [] rfl yk_Wo_init rfl rfl ⟨Nat.le_of_ble_eq_true rfl, Nat.le_of_ble_eq_true rfl⟩ w_26 w_27 rfl rfl (Nat.le_of_ble_eq_true rfl) d_WP_init_9 (sem_mono F ?_)
  intro u3 h2 F
  obtain ⟨rfl, F⟩ := F
  obtain ⟨c60, F⟩ := F
  obtain ⟨h4, eh4⟩ : ∃ z : Hp, z = wR h2 v0 0 (some (kX h)) := ⟨_, rfl⟩
  replace F := F h4 eh4
  refine x_putr hG hM ck_WP 0 (Nat.le_of_ble_eq_true rfl) (Or.inl ⟨_, rfl⟩) rfl w_402 rfl d_WP_init_12 (Or.inr ⟨rfl, rfl, rfl⟩) c60 ?_
  rw [← eh4]
  clear eh4
  refine x_aload_n hM d_WP_init_15 rfl 0 rfl ?_
  obtain ⟨c58, F⟩ := F
  obtain ⟨c59, F⟩ := F
  obtain ⟨h5, eh5⟩ : ∃ z : Hp, z = wA h4 5 0 4 := ⟨_, rfl⟩
  replace F := F h5 eh5
  refine x_new hG hM ck_Cl rfl w_183 w_38 w_4 dv_Cl d_WP_init_16 c58 c59 ?_
  rw [← eh5]
  clear eh5
  refine x_dup hM d_WP_init_19 rfl ?_
  refine x_callIN hG hM (r' := r_Cl_init) [] rfl yk_Cl_init rfl rfl ⟨Nat.le_of_ble_eq_true rfl, Nat.le_of_ble_eq_true rfl⟩ w_184 w_40 rfl rfl (Nat.le_of_ble_eq_true rfl) d_WP_init_20 (sem_mono F ?_)
  intro u7 h6 F
  obtain ⟨rfl, F⟩ := F
  obtain ⟨c57, F⟩ := F
  obtain ⟨h8, eh8⟩ : ∃ z : Hp, z = wR h6 v0 1 (some (kX h4)) := ⟨_, rfl⟩
  replace F := F h8 eh8
  refine x_putr hG hM ck_WP 1 (Nat.le_of_ble_eq_true rfl) (Or.inl ⟨_, rfl⟩) rfl w_403 rfl d_WP_init_23 (Or.inr ⟨rfl, rfl, rfl⟩) c57 ?_
  rw [← eh8]
  clear eh8
  refine x_aload_n hM d_WP_init_26 rfl 0 rfl ?_
  obtain ⟨c55, F⟩ := F
  obtain ⟨c56, F⟩ := F
  obtain ⟨h9, eh9⟩ : ∃ z : Hp, z = wA h8 6 0 8 := ⟨_, rfl⟩
  replace F := F h9 eh9
  refine x_new hG hM ck_Co rfl w_185 w_186 w_6 dv_Co d_WP_init_27 c55 c56 ?_
  rw [← eh9]
  clear eh9
  refine x_dup hM d_WP_init_30 rfl ?_
  refine x_callI hG hM (r' := r_Co_init) [] rfl yk_Co_init rfl rfl ⟨Nat.le_of_ble_eq_true rfl, Nat.le_of_ble_eq_true rfl⟩ w_187 w_188 rfl rfl (Nat.le_of_ble_eq_true rfl) d_WP_init_31 (sem_mono F ?_)
  intro u11 h10 F
  obtain ⟨rfl, F⟩ := F
  obtain ⟨c54, F⟩ := F
  obtain ⟨h12, eh12⟩ : ∃ z : Hp, z = wR h10 v0 2 (some (kX h8)) := ⟨_, rfl⟩
  replace F := F h12 eh12
  refine x_putr hG hM ck_WP 2 (Nat.le_of_ble_eq_true rfl) (Or.inl ⟨_, rfl⟩) rfl w_404 rfl d_WP_init_34 (Or.inr ⟨rfl, rfl, rfl⟩) c54 ?_
  rw [← eh12]
  clear eh12
  refine x_aload_n hM d_WP_init_37 rfl 0 rfl ?_
  obtain ⟨c52, F⟩ := F
  obtain ⟨c53, F⟩ := F
  obtain ⟨h13, eh13⟩ : ∃ z : Hp, z = wA h12 7 0 4 := ⟨_, rfl⟩
  replace F := F h13 eh13
  refine x_new hG hM ck_Ch rfl w_227 w_228 w_7 dv_Ch d_WP_init_38 c52 c53 ?_
  rw [← eh13]
  clear eh13
  refine x_dup hM d_WP_init_41 rfl ?_
  refine x_callIN hG hM (r' := r_Ch_init) [] rfl yk_Ch_init rfl rfl ⟨Nat.le_of_ble_eq_true rfl, Nat.le_of_ble_eq_true rfl⟩ w_229 w_230 rfl rfl (Nat.le_of_ble_eq_true rfl) d_WP_init_42 (sem_mono F ?_)
  intro u15 h14 F
  obtain ⟨rfl, F⟩ := F
  obtain ⟨c51, F⟩ := F
  obtain ⟨h16, eh16⟩ : ∃ z : Hp, z = wR h14 v0 3 (some (kX h12)) := ⟨_, rfl⟩
  replace F := F h16 eh16
  refine x_putr hG hM ck_WP 3 (Nat.le_of_ble_eq_true rfl) (Or.inl ⟨_, rfl⟩) rfl w_405 rfl d_WP_init_45 (Or.inr ⟨rfl, rfl, rfl⟩) c51 ?_
  rw [← eh16]
  clear eh16
  refine x_aload_n hM d_WP_init_48 rfl 0 rfl ?_
  obtain ⟨c49, F⟩ := F
  obtain ⟨c50, F⟩ := F
  obtain ⟨h17, eh17⟩ : ∃ z : Hp, z = wA h16 8 0 5 := ⟨_, rfl⟩
  replace F := F h17 eh17
  refine x_new hG hM ck_Re rfl w_250 w_251 w_8 dv_Re d_WP_init_49 c49 c50 ?_
  rw [← eh17]
  clear eh17
  refine x_dup hM d_WP_init_52 rfl ?_
  refine x_callIN hG hM (r' := r_Re_init) [] rfl yk_Re_init rfl rfl ⟨Nat.le_of_ble_eq_true rfl, Nat.le_of_ble_eq_true rfl⟩ w_252 w_253 rfl rfl (Nat.le_of_ble_eq_true rfl) d_WP_init_53 (sem_mono F ?_)
  intro u19 h18 F
  obtain ⟨rfl, F⟩ := F
  obtain ⟨c48, F⟩ := F
  obtain ⟨h20, eh20⟩ : ∃ z : Hp, z = wR h18 v0 4 (some (kX h16)) := ⟨_, rfl⟩
  replace F := F h20 eh20
  refine x_putr hG hM ck_WP 4 (Nat.le_of_ble_eq_true rfl) (Or.inl ⟨_, rfl⟩) rfl w_406 rfl d_WP_init_56 (Or.inr ⟨rfl, rfl, rfl⟩) c48 ?_
  rw [← eh20]
  clear eh20
  refine x_aload_n hM d_WP_init_59 rfl 0 rfl ?_
  obtain ⟨c46, F⟩ := F
  obtain ⟨c47, F⟩ := F
  obtain ⟨h21, eh21⟩ : ∃ z : Hp, z = wA h20 9 0 9 := ⟨_, rfl⟩
  replace F := F h21 eh21
  refine x_new hG hM ck_Wi rfl w_277 w_278 w_9 dv_Wi d_WP_init_60 c46 c47 ?_
  rw [← eh21]
  clear eh21
  refine x_dup hM d_WP_init_63 rfl ?_
  refine x_callIN hG hM (r' := r_Wi_init) [] rfl yk_Wi_init rfl rfl ⟨Nat.le_of_ble_eq_true rfl, Nat.le_of_ble_eq_true rfl⟩ w_279 w_280 rfl rfl (Nat.le_of_ble_eq_true rfl) d_WP_init_64 (sem_mono F ?_)
  intro u23 h22 F
  obtain ⟨rfl, F⟩ := F
  obtain ⟨c45, F⟩ := F
  obtain ⟨h24, eh24⟩ : ∃ z : Hp, z = wR h22 v0 5 (some (kX h20)) := ⟨_, rfl⟩
  replace F := F h24 eh24
  refine x_putr hG hM ck_WP 5 (Nat.le_of_ble_eq_true rfl) (Or.inl ⟨_, rfl⟩) rfl w_407 rfl d_WP_init_67 (Or.inr ⟨rfl, rfl, rfl⟩) c45 ?_
  rw [← eh24]
  clear eh24
  refine x_aload_n hM d_WP_init_70 rfl 0 rfl ?_
  obtain ⟨c43, F⟩ := F
  obtain ⟨c44, F⟩ := F
  obtain ⟨h25, eh25⟩ : ∃ z : Hp, z = wA h24 10 0 18 := ⟨_, rfl⟩
  replace F := F h25 eh25
  refine x_new hG hM ck_Ki rfl w_315 w_316 w_10 dv_Ki d_WP_init_71 c43 c44 ?_
  rw [← eh25]
  clear eh25
  refine x_dup hM d_WP_init_74 rfl ?_
  refine x_callIN hG hM (r' := r_Ki_init) [] rfl yk_Ki_init rfl rfl ⟨Nat.le_of_ble_eq_true rfl, Nat.le_of_ble_eq_true rfl⟩ w_317 w_318 rfl rfl (Nat.le_of_ble_eq_true rfl) d_WP_init_75 (sem_mono F ?_)
  intro u27 h26 F
  obtain ⟨rfl, F⟩ := F
  obtain ⟨c42, F⟩ := F
  obtain ⟨h28, eh28⟩ : ∃ z : Hp, z = wR h26 v0 6 (some (kX h24)) := ⟨_, rfl⟩
  replace F := F h28 eh28
  refine x_putr hG hM ck_WP 6 (Nat.le_of_ble_eq_true rfl) (Or.inl ⟨_, rfl⟩) rfl w_408 rfl d_WP_init_78 (Or.inr ⟨rfl, rfl, rfl⟩) c42 ?_
  rw [← eh28]
  clear eh28
  refine x_aload_n hM d_WP_init_81 rfl 0 rfl ?_
  obtain ⟨c40, F⟩ := F
  obtain ⟨c41, F⟩ := F
  obtain ⟨h29, eh29⟩ : ∃ z : Hp, z = wA h28 11 0 5 := ⟨_, rfl⟩
  replace F := F h29 eh29
  refine x_new hG hM ck_Se rfl w_380 w_381 w_11 dv_Se d_WP_init_82 c40 c41 ?_
  rw [← eh29]
  clear eh29
  refine x_dup hM d_WP_init_85 rfl ?_
  refine x_callIN hG hM (r' := r_Se_init) [] rfl yk_Se_init rfl rfl ⟨Nat.le_of_ble_eq_true rfl, Nat.le_of_ble_eq_true rfl⟩ w_382 w_383 rfl rfl (Nat.le_of_ble_eq_true rfl) d_WP_init_86 (sem_mono F ?_)
  intro u31 h30 F
  obtain ⟨rfl, F⟩ := F
  obtain ⟨c39, F⟩ := F
  obtain ⟨h32, eh32⟩ : ∃ z : Hp, z = wR h30 v0 7 (some (kX h28)) := ⟨_, rfl⟩
  replace F := F h32 eh32
  refine x_putr hG hM ck_WP 7 (Nat.le_of_ble_eq_true rfl) (Or.inl ⟨_, rfl⟩) rfl w_409 rfl d_WP_init_89 (Or.inr ⟨rfl, rfl, rfl⟩) c39 ?_
  rw [← eh32]
  clear eh32
  refine x_aload_n hM d_WP_init_92 rfl 0 rfl ?_
  refine x_iconst (v := 0) hM d_WP_init_93 (by decide) ?_
  obtain ⟨c38, F⟩ := F
  obtain ⟨h33, eh33⟩ : ∃ z : Hp, z = wI h32 v0 8 0 := ⟨_, rfl⟩
  replace F := F h33 eh33
  refine x_puti hG hM ck_WP 8 (Nat.le_of_ble_eq_true rfl) rfl rfl w_410 rfl d_WP_init_94 (Or.inl rfl) c38 ?_
  rw [← eh33]
  clear eh33
  refine x_aload_n hM d_WP_init_97 rfl 0 rfl ?_
  refine x_iconst (v := 0) hM d_WP_init_98 (by decide) ?_
  obtain ⟨c37, F⟩ := F
  obtain ⟨h34, eh34⟩ : ∃ z : Hp, z = wI h33 v0 9 0 := ⟨_, rfl⟩
  replace F := F h34 eh34
  refine x_puti hG hM ck_WP 9 (Nat.le_of_ble_eq_true rfl) rfl rfl w_411 rfl d_WP_init_99 (Or.inl rfl) c37 ?_
  rw [← eh34]
  clear eh34
  refine x_aload_n hM d_WP_init_102 rfl 0 rfl ?_
  refine x_lconst (v := 0) hM d_WP_init_103 (by decide) ?_
  obtain ⟨c36, F⟩ := F
  obtain ⟨h35, eh35⟩ : ∃ z : Hp, z = wL h34 v0 10 0 := ⟨_, rfl⟩
  replace F := F h35 eh35
  refine x_putl hG hM ck_WP 10 (Nat.le_of_ble_eq_true rfl) rfl rfl w_412 rfl d_WP_init_104 (Or.inl rfl) c36 ?_
  rw [← eh35]
  clear eh35
  exact x_return hM d_WP_init_107 rfl F
theorem d_WP_clear_0 : decode b_WP_clear 0 = .ok (.aload_n 0, 1) := by decide +kernel
theorem d_WP_clear_1 : decode b_WP_clear 1 = .ok (.getfield 12, 3) := by decide +kernel
theorem d_WP_clear_4 : decode b_WP_clear 4 = .ok (.getfield 76, 3) := by decide +kernel
theorem d_WP_clear_7 : decode b_WP_clear 7 = .ok (.istore_n 1, 1) := by decide +kernel
theorem d_WP_clear_8 : decode b_WP_clear 8 = .ok (.aload_n 0, 1) := by decide +kernel
theorem d_WP_clear_9 : decode b_WP_clear 9 = .ok (.getfield 12, 3) := by decide +kernel
theorem d_WP_clear_12 : decode b_WP_clear 12 = .ok (.invokevirtual 79, 3) := by decide +kernel
theorem d_WP_clear_15 : decode b_WP_clear 15 = .ok (.aload_n 0, 1) := by decide +kernel
theorem d_WP_clear_16 : decode b_WP_clear 16 = .ok (.getfield 19, 3) := by decide +kernel
theorem d_WP_clear_19 : decode b_WP_clear 19 = .ok (.iconst 0, 1) := by decide +kernel
theorem d_WP_clear_20 : decode b_WP_clear 20 = .ok (.putfield 82, 3) := by decide +kernel
theorem d_WP_clear_23 : decode b_WP_clear 23 = .ok (.aload_n 0, 1) := by decide +kernel
theorem d_WP_clear_24 : decode b_WP_clear 24 = .ok (.getfield 26, 3) := by decide +kernel
theorem d_WP_clear_27 : decode b_WP_clear 27 = .ok (.iconst 0, 1) := by decide +kernel
theorem d_WP_clear_28 : decode b_WP_clear 28 = .ok (.putfield 85, 3) := by decide +kernel
theorem d_WP_clear_31 : decode b_WP_clear 31 = .ok (.aload_n 0, 1) := by decide +kernel
theorem d_WP_clear_32 : decode b_WP_clear 32 = .ok (.iconst 0, 1) := by decide +kernel
theorem d_WP_clear_33 : decode b_WP_clear 33 = .ok (.putfield 65, 3) := by decide +kernel
theorem d_WP_clear_36 : decode b_WP_clear 36 = .ok (.aload_n 0, 1) := by decide +kernel
theorem d_WP_clear_37 : decode b_WP_clear 37 = .ok (.getfield 33, 3) := by decide +kernel
theorem d_WP_clear_40 : decode b_WP_clear 40 = .ok (.invokevirtual 86, 3) := by decide +kernel
theorem d_WP_clear_43 : decode b_WP_clear 43 = .ok (.iload_n 1, 1) := by decide +kernel
theorem d_WP_clear_44 : decode b_WP_clear 44 = .ok (.ireturn, 1) := by decide +kernel
set_option maxRecDepth 100000 in
set_option maxHeartbeats 4000000 in
theorem S_WP_clear_0 {G : Gc} {M : Mc} {Q : State → Prop} {K : Option Value → Hp → Prop} (hG : gok G) (hM : mok G M r_WP_clear Q K) (v0 : Nat) (h : Hp) (F : kT h v0 = 1 ∧ kR h v0 0 = some (rf h v0 0) ∧ (kT h (rf h v0 0) = 2 ∧ (kT h v0 = 1 ∧ kR h v0 0 = some (rf h v0 0) ∧ (kT h (rf h v0 0) = 2 ∧ sem G r_Wo_forget [.ref (rf h v0 0)] h (fun u2 h1 => u2 = none ∧ (kT h1 v0 = 1 ∧ kR h1 v0 1 = some (rf h1 v0 1) ∧ (kT h1 (rf h1 v0 1) = 5 ∧ (∀ h3 : Hp, h3 = wI h1 (rf h1 v0 1) 0 0 → (kT h3 v0 = 1 ∧ kR h3 v0 2 = some (rf h3 v0 2) ∧ (kT h3 (rf h3 v0 2) = 6 ∧ (∀ h4 : Hp, h4 = wI h3 (rf h3 v0 2) 0 0 → (kT h4 v0 = 1 ∧ (∀ h5 : Hp, h5 = wI h4 v0 8 0 → (kT h5 v0 = 1 ∧ kR h5 v0 3 = some (rf h5 v0 3) ∧ (kT h5 (rf h5 v0 3) = 7 ∧ sem G r_Ch_inWorld [.ref (rf h5 v0 3)] h5 (fun u7 h6 => u7 = none ∧ K (some (.int (kI h (rf h v0 0) 0))) h6)))))))))))))))) : X G M Q 0 [(0, .ref v0)] [] h := by
  refine x_aload_n hM d_WP_clear_0 rfl 0 rfl ?_
  obtain ⟨c22, F⟩ := F
  obtain ⟨c23, F⟩ := F
  refine x_getr hG hM ck_WP 0 (Nat.le_of_ble_eq_true rfl) rfl rfl w_402 rfl d_WP_clear_1 c22 c23 ?_
  obtain ⟨c21, F⟩ := F
  refine x_geti hG hM ck_Wo 0 (Nat.le_of_ble_eq_true rfl) rfl rfl w_124 rfl d_WP_clear_4 c21 ?_
  refine x_istore_n (lv2 := [(1, .int (kI h (rf h v0 0) 0)), (0, .ref v0)]) hM d_WP_clear_7 rfl (Nat.le_of_ble_eq_true rfl) rfl ?_
  refine x_aload_n hM d_WP_clear_8 rfl 1 rfl ?_
  obtain ⟨c19, F⟩ := F
  obtain ⟨c20, F⟩ := F
  refine x_getr hG hM ck_WP 0 (Nat.le_of_ble_eq_true rfl) rfl rfl w_402 rfl d_WP_clear_9 c19 c20 ?_
  obtain ⟨c18, F⟩ := F
  refine x_callV hG hM (r' := r_Wo_forget) (ci := 1) [] rfl rfl (Nat.le_of_ble_eq_true rfl) yk_Wo_forget ⟨Nat.le_of_ble_eq_true rfl, Nat.le_of_ble_eq_true rfl⟩ w_440 w_441 w_442 rfl rfl (Nat.le_of_ble_eq_true rfl) d_WP_clear_12 c18 (sem_mono F ?_)
  intro u2 h1 F
  obtain ⟨rfl, F⟩ := F
  refine x_aload_n hM d_WP_clear_15 rfl 1 rfl ?_
  obtain ⟨c16, F⟩ := F
  obtain ⟨c17, F⟩ := F
  refine x_getr hG hM ck_WP 1 (Nat.le_of_ble_eq_true rfl) rfl rfl w_403 rfl d_WP_clear_16 c16 c17 ?_
  refine x_iconst (v := 0) hM d_WP_clear_19 (by decide) ?_
  obtain ⟨c15, F⟩ := F
  obtain ⟨h3, eh3⟩ : ∃ z : Hp, z = wI h1 (rf h1 v0 1) 0 0 := ⟨_, rfl⟩
  replace F := F h3 eh3
  refine x_puti hG hM ck_Cl 0 (Nat.le_of_ble_eq_true rfl) rfl rfl w_45 rfl d_WP_clear_20 (Or.inl rfl) c15 ?_
  rw [← eh3]
  clear eh3
  refine x_aload_n hM d_WP_clear_23 rfl 1 rfl ?_
  obtain ⟨c13, F⟩ := F
  obtain ⟨c14, F⟩ := F
  refine x_getr hG hM ck_WP 2 (Nat.le_of_ble_eq_true rfl) rfl rfl w_404 rfl d_WP_clear_24 c13 c14 ?_
  refine x_iconst (v := 0) hM d_WP_clear_27 (by decide) ?_
  obtain ⟨c12, F⟩ := F
  obtain ⟨h4, eh4⟩ : ∃ z : Hp, z = wI h3 (rf h3 v0 2) 0 0 := ⟨_, rfl⟩
  replace F := F h4 eh4
  refine x_puti hG hM ck_Co 0 (Nat.le_of_ble_eq_true rfl) rfl rfl w_195 rfl d_WP_clear_28 (Or.inl rfl) c12 ?_
  rw [← eh4]
  clear eh4
  refine x_aload_n hM d_WP_clear_31 rfl 1 rfl ?_
  refine x_iconst (v := 0) hM d_WP_clear_32 (by decide) ?_
  obtain ⟨c11, F⟩ := F
  obtain ⟨h5, eh5⟩ : ∃ z : Hp, z = wI h4 v0 8 0 := ⟨_, rfl⟩
  replace F := F h5 eh5
  refine x_puti hG hM ck_WP 8 (Nat.le_of_ble_eq_true rfl) rfl rfl w_410 rfl d_WP_clear_33 (Or.inl rfl) c11 ?_
  rw [← eh5]
  clear eh5
  refine x_aload_n hM d_WP_clear_36 rfl 1 rfl ?_
  obtain ⟨c9, F⟩ := F
  obtain ⟨c10, F⟩ := F
  refine x_getr hG hM ck_WP 3 (Nat.le_of_ble_eq_true rfl) rfl rfl w_405 rfl d_WP_clear_37 c9 c10 ?_
  obtain ⟨c8, F⟩ := F
  refine x_callV hG hM (r' := r_Ch_inWorld) (ci := 6) [] rfl rfl (Nat.le_of_ble_eq_true rfl) yk_Ch_inWorld ⟨Nat.le_of_ble_eq_true rfl, Nat.le_of_ble_eq_true rfl⟩ w_444 w_445 w_446 rfl rfl (Nat.le_of_ble_eq_true rfl) d_WP_clear_40 c8 (sem_mono F ?_)
  intro u7 h6 F
  obtain ⟨rfl, F⟩ := F
  refine x_iload_n hM d_WP_clear_43 rfl 0 rfl ?_
  exact x_ireturn hM d_WP_clear_44 rfl F
theorem d_WP_thing_0 : decode b_WP_thing 0 = .ok (.iload_n 1, 1) := by decide +kernel
theorem d_WP_thing_1 : decode b_WP_thing 1 = .ok (.iconst 2, 1) := by decide +kernel
theorem d_WP_thing_2 : decode b_WP_thing 2 = .ok (.if_icmp .lt 8, 3) := by decide +kernel
theorem d_WP_thing_5 : decode b_WP_thing 5 = .ok (.iload_n 1, 1) := by decide +kernel
theorem d_WP_thing_6 : decode b_WP_thing 6 = .ok (.iconst 4, 1) := by decide +kernel
theorem d_WP_thing_7 : decode b_WP_thing 7 = .ok (.if_icmp .le 6, 3) := by decide +kernel
theorem d_WP_thing_10 : decode b_WP_thing 10 = .ok (.bipush (-2), 2) := by decide +kernel
theorem d_WP_thing_12 : decode b_WP_thing 12 = .ok (.ireturn, 1) := by decide +kernel
theorem d_WP_thing_13 : decode b_WP_thing 13 = .ok (.aload_n 0, 1) := by decide +kernel
theorem d_WP_thing_14 : decode b_WP_thing 14 = .ok (.getfield 12, 3) := by decide +kernel
theorem d_WP_thing_17 : decode b_WP_thing 17 = .ok (.getfield 89, 3) := by decide +kernel
theorem d_WP_thing_20 : decode b_WP_thing 20 = .ok (.ifCond .gt 23, 3) := by decide +kernel
theorem d_WP_thing_23 : decode b_WP_thing 23 = .ok (.aload_n 0, 1) := by decide +kernel
theorem d_WP_thing_24 : decode b_WP_thing 24 = .ok (.getfield 19, 3) := by decide +kernel
theorem d_WP_thing_27 : decode b_WP_thing 27 = .ok (.getfield 82, 3) := by decide +kernel
theorem d_WP_thing_30 : decode b_WP_thing 30 = .ok (.ifCond .gt 13, 3) := by decide +kernel
theorem d_WP_thing_33 : decode b_WP_thing 33 = .ok (.aload_n 0, 1) := by decide +kernel
theorem d_WP_thing_34 : decode b_WP_thing 34 = .ok (.getfield 26, 3) := by decide +kernel
theorem d_WP_thing_37 : decode b_WP_thing 37 = .ok (.getfield 85, 3) := by decide +kernel
theorem d_WP_thing_40 : decode b_WP_thing 40 = .ok (.ifCond .le 6, 3) := by decide +kernel
theorem d_WP_thing_43 : decode b_WP_thing 43 = .ok (.bipush (-2), 2) := by decide +kernel
theorem d_WP_thing_45 : decode b_WP_thing 45 = .ok (.ireturn, 1) := by decide +kernel
theorem d_WP_thing_46 : decode b_WP_thing 46 = .ok (.aload_n 0, 1) := by decide +kernel
theorem d_WP_thing_47 : decode b_WP_thing 47 = .ok (.getfield 12, 3) := by decide +kernel
theorem d_WP_thing_50 : decode b_WP_thing 50 = .ok (.iload_n 1, 1) := by decide +kernel
theorem d_WP_thing_51 : decode b_WP_thing 51 = .ok (.invokevirtual 92, 3) := by decide +kernel
theorem d_WP_thing_54 : decode b_WP_thing 54 = .ok (.istore_n 2, 1) := by decide +kernel
theorem d_WP_thing_55 : decode b_WP_thing 55 = .ok (.iload_n 2, 1) := by decide +kernel
theorem d_WP_thing_56 : decode b_WP_thing 56 = .ok (.bipush (-3), 2) := by decide +kernel
theorem d_WP_thing_58 : decode b_WP_thing 58 = .ok (.if_icmp .eq 10, 3) := by decide +kernel
theorem d_WP_thing_61 : decode b_WP_thing 61 = .ok (.aload_n 0, 1) := by decide +kernel
theorem d_WP_thing_62 : decode b_WP_thing 62 = .ok (.getfield 33, 3) := by decide +kernel
theorem d_WP_thing_65 : decode b_WP_thing 65 = .ok (.invokevirtual 86, 3) := by decide +kernel
theorem d_WP_thing_68 : decode b_WP_thing 68 = .ok (.iload_n 2, 1) := by decide +kernel
theorem d_WP_thing_69 : decode b_WP_thing 69 = .ok (.ireturn, 1) := by decide +kernel
set_option maxRecDepth 100000 in
set_option maxHeartbeats 4000000 in
theorem S_WP_thing_0 {G : Gc} {M : Mc} {Q : State → Prop} {K : Option Value → Hp → Prop} (hG : gok G) (hM : mok G M r_WP_thing Q K) (v0 : Nat) (v1 : Int32) (h : Hp) (F : (v1 < 2 → K (some (.int (-2))) h) ∧ (¬ v1 < 2 → ((v1 ≤ 4 → (kT h v0 = 1 ∧ kR h v0 0 = some (rf h v0 0) ∧ (kT h (rf h v0 0) = 2 ∧ ((0 < (kI h (rf h v0 0) 2) → K (some (.int (-2))) h) ∧ (¬ 0 < (kI h (rf h v0 0) 2) → (kT h v0 = 1 ∧ kR h v0 1 = some (rf h v0 1) ∧ (kT h (rf h v0 1) = 5 ∧ ((0 < (kI h (rf h v0 1) 0) → K (some (.int (-2))) h) ∧ (¬ 0 < (kI h (rf h v0 1) 0) → (kT h v0 = 1 ∧ kR h v0 2 = some (rf h v0 2) ∧ (kT h (rf h v0 2) = 6 ∧ (((kI h (rf h v0 2) 0) ≤ 0 → (kT h v0 = 1 ∧ kR h v0 0 = some (rf h v0 0) ∧ (kT h (rf h v0 0) = 2 ∧ sem G r_Wo_addThing [.ref (rf h v0 0), .int v1] h (fun u2 h1 => ∃ x3 : Int32, u2 = some (.int x3) ∧ ((x3 = (-3) → K (some (.int x3)) h1) ∧ (¬ x3 = (-3) → (kT h1 v0 = 1 ∧ kR h1 v0 3 = some (rf h1 v0 3) ∧ (kT h1 (rf h1 v0 3) = 7 ∧ sem G r_Ch_inWorld [.ref (rf h1 v0 3)] h1 (fun u5 h4 => u5 = none ∧ K (some (.int x3)) h4))))))))) ∧ (¬ (kI h (rf h v0 2) 0) ≤ 0 → K (some (.int (-2))) h))))))))))))) ∧ (¬ v1 ≤ 4 → K (some (.int (-2))) h)))) : X G M Q 0 [(0, .ref v0), (1, .int v1)] [] h := by
  refine x_iload_n hM d_WP_thing_0 rfl 1 rfl ?_
  refine x_iconst (v := 2) hM d_WP_thing_1 (by decide) ?_
  refine x_icmp_lt (tgt := 10) hM d_WP_thing_2 (by decide) (fun q26 => ?_) (fun q26 => ?_)
  · replace F := F.1 q26
    refine x_bipush (v := (-2)) hM d_WP_thing_10 (by decide) ?_
    exact x_ireturn hM d_WP_thing_12 rfl F
  · replace F := F.2 q26
    refine x_iload_n hM d_WP_thing_5 rfl 1 rfl ?_
    refine x_iconst (v := 4) hM d_WP_thing_6 (by decide) ?_
    refine x_icmp_le (tgt := 13) hM d_WP_thing_7 (by decide) (fun q25 => ?_) (fun q25 => ?_)
    · replace F := F.1 q25
      refine x_aload_n hM d_WP_thing_13 rfl 0 rfl ?_
      obtain ⟨c23, F⟩ := F
      obtain ⟨c24, F⟩ := F
      refine x_getr hG hM ck_WP 0 (Nat.le_of_ble_eq_true rfl) rfl rfl w_402 rfl d_WP_thing_14 c23 c24 ?_
      obtain ⟨c22, F⟩ := F
      refine x_geti hG hM ck_Wo 2 (Nat.le_of_ble_eq_true rfl) rfl rfl w_136 rfl d_WP_thing_17 c22 ?_
      refine x_if_gt (tgt := 43) hM d_WP_thing_20 (by decide) (fun q21 => ?_) (fun q21 => ?_)
      · replace F := F.1 q21
        refine x_bipush (v := (-2)) hM d_WP_thing_43 (by decide) ?_
        exact x_ireturn hM d_WP_thing_45 rfl F
      · replace F := F.2 q21
        refine x_aload_n hM d_WP_thing_23 rfl 0 rfl ?_
        obtain ⟨c19, F⟩ := F
        obtain ⟨c20, F⟩ := F
        refine x_getr hG hM ck_WP 1 (Nat.le_of_ble_eq_true rfl) rfl rfl w_403 rfl d_WP_thing_24 c19 c20 ?_
        obtain ⟨c18, F⟩ := F
        refine x_geti hG hM ck_Cl 0 (Nat.le_of_ble_eq_true rfl) rfl rfl w_45 rfl d_WP_thing_27 c18 ?_
        refine x_if_gt (tgt := 43) hM d_WP_thing_30 (by decide) (fun q17 => ?_) (fun q17 => ?_)
        · replace F := F.1 q17
          refine x_bipush (v := (-2)) hM d_WP_thing_43 (by decide) ?_
          exact x_ireturn hM d_WP_thing_45 rfl F
        · replace F := F.2 q17
          refine x_aload_n hM d_WP_thing_33 rfl 0 rfl ?_
          obtain ⟨c15, F⟩ := F
          obtain ⟨c16, F⟩ := F
          refine x_getr hG hM ck_WP 2 (Nat.le_of_ble_eq_true rfl) rfl rfl w_404 rfl d_WP_thing_34 c15 c16 ?_
          obtain ⟨c14, F⟩ := F
          refine x_geti hG hM ck_Co 0 (Nat.le_of_ble_eq_true rfl) rfl rfl w_195 rfl d_WP_thing_37 c14 ?_
          refine x_if_le (tgt := 46) hM d_WP_thing_40 (by decide) (fun q13 => ?_) (fun q13 => ?_)
          · replace F := F.1 q13
            refine x_aload_n hM d_WP_thing_46 rfl 0 rfl ?_
            obtain ⟨c11, F⟩ := F
            obtain ⟨c12, F⟩ := F
            refine x_getr hG hM ck_WP 0 (Nat.le_of_ble_eq_true rfl) rfl rfl w_402 rfl d_WP_thing_47 c11 c12 ?_
            refine x_iload_n hM d_WP_thing_50 rfl 1 rfl ?_
            obtain ⟨c10, F⟩ := F
            refine x_callV hG hM (r' := r_Wo_addThing) (ci := 1) [.int v1] rfl rfl (Nat.le_of_ble_eq_true rfl) yk_Wo_addThing ⟨Nat.le_of_ble_eq_true rfl, Nat.le_of_ble_eq_true rfl⟩ w_452 w_453 w_454 rfl rfl (Nat.le_of_ble_eq_true rfl) d_WP_thing_51 c10 (sem_mono F ?_)
            intro u2 h1 F
            obtain ⟨x3, rfl, F⟩ := F
            refine x_istore_n (lv2 := [(2, .int x3), (0, .ref v0), (1, .int v1)]) hM d_WP_thing_54 rfl (Nat.le_of_ble_eq_true rfl) rfl ?_
            refine x_iload_n hM d_WP_thing_55 rfl 0 rfl ?_
            refine x_bipush (v := (-3)) hM d_WP_thing_56 (by decide) ?_
            refine x_icmp_eq (tgt := 68) hM d_WP_thing_58 (by decide) (fun q9 => ?_) (fun q9 => ?_)
            · replace F := F.1 q9
              refine x_iload_n hM d_WP_thing_68 rfl 0 rfl ?_
              exact x_ireturn hM d_WP_thing_69 rfl F
            · replace F := F.2 q9
              refine x_aload_n hM d_WP_thing_61 rfl 1 rfl ?_
              obtain ⟨c7, F⟩ := F
              obtain ⟨c8, F⟩ := F
              refine x_getr hG hM ck_WP 3 (Nat.le_of_ble_eq_true rfl) rfl rfl w_405 rfl d_WP_thing_62 c7 c8 ?_
              obtain ⟨c6, F⟩ := F
              refine x_callV hG hM (r' := r_Ch_inWorld) (ci := 6) [] rfl rfl (Nat.le_of_ble_eq_true rfl) yk_Ch_inWorld ⟨Nat.le_of_ble_eq_true rfl, Nat.le_of_ble_eq_true rfl⟩ w_444 w_445 w_446 rfl rfl (Nat.le_of_ble_eq_true rfl) d_WP_thing_65 c6 (sem_mono F ?_)
              intro u5 h4 F
              obtain ⟨rfl, F⟩ := F
              refine x_iload_n hM d_WP_thing_68 rfl 0 rfl ?_
              exact x_ireturn hM d_WP_thing_69 rfl F
          · replace F := F.2 q13
            refine x_bipush (v := (-2)) hM d_WP_thing_43 (by decide) ?_
            exact x_ireturn hM d_WP_thing_45 rfl F
    · replace F := F.2 q25
      refine x_bipush (v := (-2)) hM d_WP_thing_10 (by decide) ?_
      exact x_ireturn hM d_WP_thing_12 rfl F
theorem d_WP_start_0 : decode b_WP_start 0 = .ok (.aload_n 0, 1) := by decide +kernel
theorem d_WP_start_1 : decode b_WP_start 1 = .ok (.getfield 12, 3) := by decide +kernel
theorem d_WP_start_4 : decode b_WP_start 4 = .ok (.iload_n 1, 1) := by decide +kernel
theorem d_WP_start_5 : decode b_WP_start 5 = .ok (.invokevirtual 96, 3) := by decide +kernel
theorem d_WP_start_8 : decode b_WP_start 8 = .ok (.ifCond .ne 6, 3) := by decide +kernel
theorem d_WP_start_11 : decode b_WP_start 11 = .ok (.bipush (-2), 2) := by decide +kernel
theorem d_WP_start_13 : decode b_WP_start 13 = .ok (.ireturn, 1) := by decide +kernel
theorem d_WP_start_14 : decode b_WP_start 14 = .ok (.aload_n 0, 1) := by decide +kernel
theorem d_WP_start_15 : decode b_WP_start 15 = .ok (.getfield 65, 3) := by decide +kernel
theorem d_WP_start_18 : decode b_WP_start 18 = .ok (.istore_n 2, 1) := by decide +kernel
theorem d_WP_start_19 : decode b_WP_start 19 = .ok (.iload_n 1, 1) := by decide +kernel
theorem d_WP_start_20 : decode b_WP_start 20 = .ok (.iload_n 2, 1) := by decide +kernel
theorem d_WP_start_21 : decode b_WP_start 21 = .ok (.if_icmp .eq 15, 3) := by decide +kernel
theorem d_WP_start_24 : decode b_WP_start 24 = .ok (.aload_n 0, 1) := by decide +kernel
theorem d_WP_start_25 : decode b_WP_start 25 = .ok (.iload_n 1, 1) := by decide +kernel
theorem d_WP_start_26 : decode b_WP_start 26 = .ok (.putfield 65, 3) := by decide +kernel
theorem d_WP_start_29 : decode b_WP_start 29 = .ok (.aload_n 0, 1) := by decide +kernel
theorem d_WP_start_30 : decode b_WP_start 30 = .ok (.getfield 33, 3) := by decide +kernel
theorem d_WP_start_33 : decode b_WP_start 33 = .ok (.invokevirtual 100, 3) := by decide +kernel
theorem d_WP_start_36 : decode b_WP_start 36 = .ok (.iload_n 2, 1) := by decide +kernel
theorem d_WP_start_37 : decode b_WP_start 37 = .ok (.ireturn, 1) := by decide +kernel
set_option maxRecDepth 100000 in
set_option maxHeartbeats 4000000 in
theorem S_WP_start_0 {G : Gc} {M : Mc} {Q : State → Prop} {K : Option Value → Hp → Prop} (hG : gok G) (hM : mok G M r_WP_start Q K) (v0 : Nat) (v1 : Int32) (h : Hp) (F : kT h v0 = 1 ∧ kR h v0 0 = some (rf h v0 0) ∧ (kT h (rf h v0 0) = 2 ∧ sem G r_Wo_isState [.ref (rf h v0 0), .int v1] h (fun u2 h1 => ∃ x3 : Int32, u2 = some (.int x3) ∧ ((x3 = 0 → K (some (.int (-2))) h1) ∧ (¬ x3 = 0 → (kT h1 v0 = 1 ∧ ((v1 = (kI h1 v0 8) → K (some (.int (kI h1 v0 8))) h1) ∧ (¬ v1 = (kI h1 v0 8) → (kT h1 v0 = 1 ∧ (∀ h4 : Hp, h4 = wI h1 v0 8 v1 → (kT h4 v0 = 1 ∧ kR h4 v0 3 = some (rf h4 v0 3) ∧ (kT h4 (rf h4 v0 3) = 7 ∧ sem G r_Ch_inStart [.ref (rf h4 v0 3)] h4 (fun u6 h5 => u6 = none ∧ K (some (.int (kI h1 v0 8))) h5))))))))))))) : X G M Q 0 [(0, .ref v0), (1, .int v1)] [] h := by
  refine x_aload_n hM d_WP_start_0 rfl 0 rfl ?_
  obtain ⟨c15, F⟩ := F
  obtain ⟨c16, F⟩ := F
  refine x_getr hG hM ck_WP 0 (Nat.le_of_ble_eq_true rfl) rfl rfl w_402 rfl d_WP_start_1 c15 c16 ?_
  refine x_iload_n hM d_WP_start_4 rfl 1 rfl ?_
  obtain ⟨c14, F⟩ := F
  refine x_callV hG hM (r' := r_Wo_isState) (ci := 1) [.int v1] rfl rfl (Nat.le_of_ble_eq_true rfl) yk_Wo_isState ⟨Nat.le_of_ble_eq_true rfl, Nat.le_of_ble_eq_true rfl⟩ w_460 w_461 w_462 rfl rfl (Nat.le_of_ble_eq_true rfl) d_WP_start_5 c14 (sem_mono F ?_)
  intro u2 h1 F
  obtain ⟨x3, rfl, F⟩ := F
  refine x_if_ne (tgt := 14) hM d_WP_start_8 (by decide) (fun q13 => ?_) (fun q13 => ?_)
  · replace F := F.2 q13
    refine x_aload_n hM d_WP_start_14 rfl 0 rfl ?_
    obtain ⟨c12, F⟩ := F
    refine x_geti hG hM ck_WP 8 (Nat.le_of_ble_eq_true rfl) rfl rfl w_410 rfl d_WP_start_15 c12 ?_
    refine x_istore_n (lv2 := [(2, .int (kI h1 v0 8)), (0, .ref v0), (1, .int v1)]) hM d_WP_start_18 rfl (Nat.le_of_ble_eq_true rfl) rfl ?_
    refine x_iload_n hM d_WP_start_19 rfl 2 rfl ?_
    refine x_iload_n hM d_WP_start_20 rfl 0 rfl ?_
    refine x_icmp_eq (tgt := 36) hM d_WP_start_21 (by decide) (fun q11 => ?_) (fun q11 => ?_)
    · replace F := F.1 q11
      refine x_iload_n hM d_WP_start_36 rfl 0 rfl ?_
      exact x_ireturn hM d_WP_start_37 rfl F
    · replace F := F.2 q11
      refine x_aload_n hM d_WP_start_24 rfl 1 rfl ?_
      refine x_iload_n hM d_WP_start_25 rfl 2 rfl ?_
      obtain ⟨c10, F⟩ := F
      obtain ⟨h4, eh4⟩ : ∃ z : Hp, z = wI h1 v0 8 v1 := ⟨_, rfl⟩
      replace F := F h4 eh4
      refine x_puti hG hM ck_WP 8 (Nat.le_of_ble_eq_true rfl) rfl rfl w_410 rfl d_WP_start_26 (Or.inl rfl) c10 ?_
      rw [← eh4]
      clear eh4
      refine x_aload_n hM d_WP_start_29 rfl 1 rfl ?_
      obtain ⟨c8, F⟩ := F
      obtain ⟨c9, F⟩ := F
      refine x_getr hG hM ck_WP 3 (Nat.le_of_ble_eq_true rfl) rfl rfl w_405 rfl d_WP_start_30 c8 c9 ?_
      obtain ⟨c7, F⟩ := F
      refine x_callV hG hM (r' := r_Ch_inStart) (ci := 6) [] rfl rfl (Nat.le_of_ble_eq_true rfl) yk_Ch_inStart ⟨Nat.le_of_ble_eq_true rfl, Nat.le_of_ble_eq_true rfl⟩ w_464 w_465 w_466 rfl rfl (Nat.le_of_ble_eq_true rfl) d_WP_start_33 c7 (sem_mono F ?_)
      intro u6 h5 F
      obtain ⟨rfl, F⟩ := F
      refine x_iload_n hM d_WP_start_36 rfl 0 rfl ?_
      exact x_ireturn hM d_WP_start_37 rfl F
  · replace F := F.1 q13
    refine x_bipush (v := (-2)) hM d_WP_start_11 (by decide) ?_
    exact x_ireturn hM d_WP_start_13 rfl F
theorem d_WP_act_0 : decode b_WP_act 0 = .ok (.aload_n 0, 1) := by decide +kernel
theorem d_WP_act_1 : decode b_WP_act 1 = .ok (.getfield 12, 3) := by decide +kernel
theorem d_WP_act_4 : decode b_WP_act 4 = .ok (.invokevirtual 103, 3) := by decide +kernel
theorem d_WP_act_7 : decode b_WP_act 7 = .ok (.istore_n 1, 1) := by decide +kernel
theorem d_WP_act_8 : decode b_WP_act 8 = .ok (.iload_n 1, 1) := by decide +kernel
theorem d_WP_act_9 : decode b_WP_act 9 = .ok (.bipush (-3), 2) := by decide +kernel
theorem d_WP_act_11 : decode b_WP_act 11 = .ok (.if_icmp .eq 10, 3) := by decide +kernel
theorem d_WP_act_14 : decode b_WP_act 14 = .ok (.aload_n 0, 1) := by decide +kernel
theorem d_WP_act_15 : decode b_WP_act 15 = .ok (.getfield 33, 3) := by decide +kernel
theorem d_WP_act_18 : decode b_WP_act 18 = .ok (.invokevirtual 86, 3) := by decide +kernel
theorem d_WP_act_21 : decode b_WP_act 21 = .ok (.iload_n 1, 1) := by decide +kernel
theorem d_WP_act_22 : decode b_WP_act 22 = .ok (.ireturn, 1) := by decide +kernel
set_option maxRecDepth 100000 in
set_option maxHeartbeats 4000000 in
theorem S_WP_act_0 {G : Gc} {M : Mc} {Q : State → Prop} {K : Option Value → Hp → Prop} (hG : gok G) (hM : mok G M r_WP_act Q K) (v0 : Nat) (h : Hp) (F : kT h v0 = 1 ∧ kR h v0 0 = some (rf h v0 0) ∧ (kT h (rf h v0 0) = 2 ∧ sem G r_Wo_addAct [.ref (rf h v0 0)] h (fun u2 h1 => ∃ x3 : Int32, u2 = some (.int x3) ∧ ((x3 = (-3) → K (some (.int x3)) h1) ∧ (¬ x3 = (-3) → (kT h1 v0 = 1 ∧ kR h1 v0 3 = some (rf h1 v0 3) ∧ (kT h1 (rf h1 v0 3) = 7 ∧ sem G r_Ch_inWorld [.ref (rf h1 v0 3)] h1 (fun u5 h4 => u5 = none ∧ K (some (.int x3)) h4)))))))) : X G M Q 0 [(0, .ref v0)] [] h := by
  refine x_aload_n hM d_WP_act_0 rfl 0 rfl ?_
  obtain ⟨c11, F⟩ := F
  obtain ⟨c12, F⟩ := F
  refine x_getr hG hM ck_WP 0 (Nat.le_of_ble_eq_true rfl) rfl rfl w_402 rfl d_WP_act_1 c11 c12 ?_
  obtain ⟨c10, F⟩ := F
  refine x_callV hG hM (r' := r_Wo_addAct) (ci := 1) [] rfl rfl (Nat.le_of_ble_eq_true rfl) yk_Wo_addAct ⟨Nat.le_of_ble_eq_true rfl, Nat.le_of_ble_eq_true rfl⟩ w_472 w_473 w_474 rfl rfl (Nat.le_of_ble_eq_true rfl) d_WP_act_4 c10 (sem_mono F ?_)
  intro u2 h1 F
  obtain ⟨x3, rfl, F⟩ := F
  refine x_istore_n (lv2 := [(1, .int x3), (0, .ref v0)]) hM d_WP_act_7 rfl (Nat.le_of_ble_eq_true rfl) rfl ?_
  refine x_iload_n hM d_WP_act_8 rfl 0 rfl ?_
  refine x_bipush (v := (-3)) hM d_WP_act_9 (by decide) ?_
  refine x_icmp_eq (tgt := 21) hM d_WP_act_11 (by decide) (fun q9 => ?_) (fun q9 => ?_)
  · replace F := F.1 q9
    refine x_iload_n hM d_WP_act_21 rfl 0 rfl ?_
    exact x_ireturn hM d_WP_act_22 rfl F
  · replace F := F.2 q9
    refine x_aload_n hM d_WP_act_14 rfl 1 rfl ?_
    obtain ⟨c7, F⟩ := F
    obtain ⟨c8, F⟩ := F
    refine x_getr hG hM ck_WP 3 (Nat.le_of_ble_eq_true rfl) rfl rfl w_405 rfl d_WP_act_15 c7 c8 ?_
    obtain ⟨c6, F⟩ := F
    refine x_callV hG hM (r' := r_Ch_inWorld) (ci := 6) [] rfl rfl (Nat.le_of_ble_eq_true rfl) yk_Ch_inWorld ⟨Nat.le_of_ble_eq_true rfl, Nat.le_of_ble_eq_true rfl⟩ w_444 w_445 w_446 rfl rfl (Nat.le_of_ble_eq_true rfl) d_WP_act_18 c6 (sem_mono F ?_)
    intro u5 h4 F
    obtain ⟨rfl, F⟩ := F
    refine x_iload_n hM d_WP_act_21 rfl 0 rfl ?_
    exact x_ireturn hM d_WP_act_22 rfl F
theorem d_WP_outcome_0 : decode b_WP_outcome 0 = .ok (.aload_n 0, 1) := by decide +kernel
theorem d_WP_outcome_1 : decode b_WP_outcome 1 = .ok (.getfield 12, 3) := by decide +kernel
theorem d_WP_outcome_4 : decode b_WP_outcome 4 = .ok (.iload_n 1, 1) := by decide +kernel
theorem d_WP_outcome_5 : decode b_WP_outcome 5 = .ok (.invokevirtual 107, 3) := by decide +kernel
theorem d_WP_outcome_8 : decode b_WP_outcome 8 = .ok (.ifCond .ne 6, 3) := by decide +kernel
theorem d_WP_outcome_11 : decode b_WP_outcome 11 = .ok (.bipush (-2), 2) := by decide +kernel
theorem d_WP_outcome_13 : decode b_WP_outcome 13 = .ok (.ireturn, 1) := by decide +kernel
theorem d_WP_outcome_14 : decode b_WP_outcome 14 = .ok (.aload_n 0, 1) := by decide +kernel
theorem d_WP_outcome_15 : decode b_WP_outcome 15 = .ok (.getfield 12, 3) := by decide +kernel
theorem d_WP_outcome_18 : decode b_WP_outcome 18 = .ok (.getfield 110, 3) := by decide +kernel
theorem d_WP_outcome_21 : decode b_WP_outcome 21 = .ok (.iload_n 1, 1) := by decide +kernel
theorem d_WP_outcome_22 : decode b_WP_outcome 22 = .ok (.aaload, 1) := by decide +kernel
theorem d_WP_outcome_23 : decode b_WP_outcome 23 = .ok (.invokevirtual 114, 3) := by decide +kernel
theorem d_WP_outcome_26 : decode b_WP_outcome 26 = .ok (.istore_n 2, 1) := by decide +kernel
theorem d_WP_outcome_27 : decode b_WP_outcome 27 = .ok (.aload_n 0, 1) := by decide +kernel
theorem d_WP_outcome_28 : decode b_WP_outcome 28 = .ok (.iload_n 1, 1) := by decide +kernel
theorem d_WP_outcome_29 : decode b_WP_outcome 29 = .ok (.iload_n 2, 1) := by decide +kernel
theorem d_WP_outcome_30 : decode b_WP_outcome 30 = .ok (.invokevirtual 119, 3) := by decide +kernel
theorem d_WP_outcome_33 : decode b_WP_outcome 33 = .ok (.iload_n 2, 1) := by decide +kernel
theorem d_WP_outcome_34 : decode b_WP_outcome 34 = .ok (.ireturn, 1) := by decide +kernel
set_option maxRecDepth 100000 in
set_option maxHeartbeats 4000000 in
theorem S_WP_outcome_0 {G : Gc} {M : Mc} {Q : State → Prop} {K : Option Value → Hp → Prop} (hG : gok G) (hM : mok G M r_WP_outcome Q K) (v0 : Nat) (v1 : Int32) (h : Hp) (F : kT h v0 = 1 ∧ kR h v0 0 = some (rf h v0 0) ∧ (kT h (rf h v0 0) = 2 ∧ sem G r_Wo_isAct [.ref (rf h v0 0), .int v1] h (fun u2 h1 => ∃ x3 : Int32, u2 = some (.int x3) ∧ ((x3 = 0 → K (some (.int (-2))) h1) ∧ (¬ x3 = 0 → (kT h1 v0 = 1 ∧ kR h1 v0 0 = some (rf h1 v0 0) ∧ (kT h1 (rf h1 v0 0) = 2 ∧ kR h1 (rf h1 v0 0) 5 = some (rf h1 (rf h1 v0 0) 5) ∧ (kT h1 (rf h1 (rf h1 v0 0) 5) = 53 ∧ vp_in v1 (kN h1 (rf h1 (rf h1 v0 0) 5)) ∧ kR h1 (rf h1 (rf h1 v0 0) 5) (Int32.toNatClampNeg v1) = some (rf h1 (rf h1 (rf h1 v0 0) 5) (Int32.toNatClampNeg v1)) ∧ (kT h1 (rf h1 (rf h1 (rf h1 v0 0) 5) (Int32.toNatClampNeg v1)) = 3 ∧ sem G r_Ac_addOutcome [.ref (rf h1 (rf h1 (rf h1 v0 0) 5) (Int32.toNatClampNeg v1))] h1 (fun u5 h4 => ∃ x6 : Int32, u5 = some (.int x6) ∧ (kT h4 v0 = 1 ∧ sem G r_WP_noteActChange [.ref v0, .int v1, .int x6] h4 (fun u8 h7 => u8 = none ∧ K (some (.int x6)) h7)))))))))))) : X G M Q 0 [(0, .ref v0), (1, .int v1)] [] h := by
  refine x_aload_n hM d_WP_outcome_0 rfl 0 rfl ?_
  obtain ⟨c20, F⟩ := F
  obtain ⟨c21, F⟩ := F
  refine x_getr hG hM ck_WP 0 (Nat.le_of_ble_eq_true rfl) rfl rfl w_402 rfl d_WP_outcome_1 c20 c21 ?_
  refine x_iload_n hM d_WP_outcome_4 rfl 1 rfl ?_
  obtain ⟨c19, F⟩ := F
  refine x_callV hG hM (r' := r_Wo_isAct) (ci := 1) [.int v1] rfl rfl (Nat.le_of_ble_eq_true rfl) yk_Wo_isAct ⟨Nat.le_of_ble_eq_true rfl, Nat.le_of_ble_eq_true rfl⟩ w_484 w_485 w_486 rfl rfl (Nat.le_of_ble_eq_true rfl) d_WP_outcome_5 c19 (sem_mono F ?_)
  intro u2 h1 F
  obtain ⟨x3, rfl, F⟩ := F
  refine x_if_ne (tgt := 14) hM d_WP_outcome_8 (by decide) (fun q18 => ?_) (fun q18 => ?_)
  · replace F := F.2 q18
    refine x_aload_n hM d_WP_outcome_14 rfl 0 rfl ?_
    obtain ⟨c16, F⟩ := F
    obtain ⟨c17, F⟩ := F
    refine x_getr hG hM ck_WP 0 (Nat.le_of_ble_eq_true rfl) rfl rfl w_402 rfl d_WP_outcome_15 c16 c17 ?_
    obtain ⟨c14, F⟩ := F
    obtain ⟨c15, F⟩ := F
    refine x_getr hG hM ck_Wo 5 (Nat.le_of_ble_eq_true rfl) rfl rfl w_146 rfl d_WP_outcome_18 c14 c15 ?_
    refine x_iload_n hM d_WP_outcome_21 rfl 1 rfl ?_
    obtain ⟨c11, F⟩ := F
    obtain ⟨c12, F⟩ := F
    obtain ⟨c13, F⟩ := F
    refine x_aaload hG hM 53 rfl (Nat.le_of_ble_eq_true rfl) d_WP_outcome_22 c11 c12 c13 ?_
    obtain ⟨c10, F⟩ := F
    refine x_callV hG hM (r' := r_Ac_addOutcome) (ci := 2) [] rfl rfl (Nat.le_of_ble_eq_true rfl) yk_Ac_addOutcome ⟨Nat.le_of_ble_eq_true rfl, Nat.le_of_ble_eq_true rfl⟩ w_488 w_489 w_490 rfl rfl (Nat.le_of_ble_eq_true rfl) d_WP_outcome_23 c10 (sem_mono F ?_)
    intro u5 h4 F
    obtain ⟨x6, rfl, F⟩ := F
    refine x_istore_n (lv2 := [(2, .int x6), (0, .ref v0), (1, .int v1)]) hM d_WP_outcome_26 rfl (Nat.le_of_ble_eq_true rfl) rfl ?_
    refine x_aload_n hM d_WP_outcome_27 rfl 1 rfl ?_
    refine x_iload_n hM d_WP_outcome_28 rfl 2 rfl ?_
    refine x_iload_n hM d_WP_outcome_29 rfl 0 rfl ?_
    obtain ⟨c9, F⟩ := F
    refine x_callV hG hM (r' := r_WP_noteActChange) (ci := 0) [.int v1, .int x6] rfl rfl (Nat.le_of_ble_eq_true rfl) yk_WP_noteActChange ⟨Nat.le_of_ble_eq_true rfl, Nat.le_of_ble_eq_true rfl⟩ w_492 w_494 ws_WP_noteActChange rfl rfl (Nat.le_of_ble_eq_true rfl) d_WP_outcome_30 c9 (sem_mono F ?_)
    intro u8 h7 F
    obtain ⟨rfl, F⟩ := F
    refine x_iload_n hM d_WP_outcome_33 rfl 0 rfl ?_
    exact x_ireturn hM d_WP_outcome_34 rfl F
  · replace F := F.1 q18
    refine x_bipush (v := (-2)) hM d_WP_outcome_11 (by decide) ?_
    exact x_ireturn hM d_WP_outcome_13 rfl F
theorem d_WP_noteActChange_0 : decode b_WP_noteActChange 0 = .ok (.iload_n 2, 1) := by decide +kernel
theorem d_WP_noteActChange_1 : decode b_WP_noteActChange 1 = .ok (.bipush (-3), 2) := by decide +kernel
theorem d_WP_noteActChange_3 : decode b_WP_noteActChange 3 = .ok (.if_icmp .eq 31, 3) := by decide +kernel
theorem d_WP_noteActChange_6 : decode b_WP_noteActChange 6 = .ok (.aload_n 0, 1) := by decide +kernel
theorem d_WP_noteActChange_7 : decode b_WP_noteActChange 7 = .ok (.getfield 12, 3) := by decide +kernel
theorem d_WP_noteActChange_10 : decode b_WP_noteActChange 10 = .ok (.getfield 110, 3) := by decide +kernel
theorem d_WP_noteActChange_13 : decode b_WP_noteActChange 13 = .ok (.iload_n 1, 1) := by decide +kernel
theorem d_WP_noteActChange_14 : decode b_WP_noteActChange 14 = .ok (.aaload, 1) := by decide +kernel
theorem d_WP_noteActChange_15 : decode b_WP_noteActChange 15 = .ok (.iconst 0, 1) := by decide +kernel
theorem d_WP_noteActChange_16 : decode b_WP_noteActChange 16 = .ok (.putfield 283, 3) := by decide +kernel
theorem d_WP_noteActChange_19 : decode b_WP_noteActChange 19 = .ok (.aload_n 0, 1) := by decide +kernel
theorem d_WP_noteActChange_20 : decode b_WP_noteActChange 20 = .ok (.getfield 12, 3) := by decide +kernel
theorem d_WP_noteActChange_23 : decode b_WP_noteActChange 23 = .ok (.iconst 0, 1) := by decide +kernel
theorem d_WP_noteActChange_24 : decode b_WP_noteActChange 24 = .ok (.putfield 287, 3) := by decide +kernel
theorem d_WP_noteActChange_27 : decode b_WP_noteActChange 27 = .ok (.aload_n 0, 1) := by decide +kernel
theorem d_WP_noteActChange_28 : decode b_WP_noteActChange 28 = .ok (.getfield 33, 3) := by decide +kernel
theorem d_WP_noteActChange_31 : decode b_WP_noteActChange 31 = .ok (.invokevirtual 86, 3) := by decide +kernel
theorem d_WP_noteActChange_34 : decode b_WP_noteActChange 34 = .ok (.return_, 1) := by decide +kernel
set_option maxRecDepth 100000 in
set_option maxHeartbeats 4000000 in
theorem S_WP_noteActChange_0 {G : Gc} {M : Mc} {Q : State → Prop} {K : Option Value → Hp → Prop} (hG : gok G) (hM : mok G M r_WP_noteActChange Q K) (v0 : Nat) (v1 : Int32) (v2 : Int32) (h : Hp) (F : (v2 = (-3) → K none h) ∧ (¬ v2 = (-3) → (kT h v0 = 1 ∧ kR h v0 0 = some (rf h v0 0) ∧ (kT h (rf h v0 0) = 2 ∧ kR h (rf h v0 0) 5 = some (rf h (rf h v0 0) 5) ∧ (kT h (rf h (rf h v0 0) 5) = 53 ∧ vp_in v1 (kN h (rf h (rf h v0 0) 5)) ∧ kR h (rf h (rf h v0 0) 5) (Int32.toNatClampNeg v1) = some (rf h (rf h (rf h v0 0) 5) (Int32.toNatClampNeg v1)) ∧ (kT h (rf h (rf h (rf h v0 0) 5) (Int32.toNatClampNeg v1)) = 3 ∧ (∀ h1 : Hp, h1 = wI h (rf h (rf h (rf h v0 0) 5) (Int32.toNatClampNeg v1)) 3 0 → (kT h1 v0 = 1 ∧ kR h1 v0 0 = some (rf h1 v0 0) ∧ (kT h1 (rf h1 v0 0) = 2 ∧ (∀ h2 : Hp, h2 = wI h1 (rf h1 v0 0) 9 0 → (kT h2 v0 = 1 ∧ kR h2 v0 3 = some (rf h2 v0 3) ∧ (kT h2 (rf h2 v0 3) = 7 ∧ sem G r_Ch_inWorld [.ref (rf h2 v0 3)] h2 (fun u4 h3 => u4 = none ∧ K none h3))))))))))))) : X G M Q 0 [(0, .ref v0), (1, .int v1), (2, .int v2)] [] h := by
  refine x_iload_n hM d_WP_noteActChange_0 rfl 2 rfl ?_
  refine x_bipush (v := (-3)) hM d_WP_noteActChange_1 (by decide) ?_
  refine x_icmp_eq (tgt := 34) hM d_WP_noteActChange_3 (by decide) (fun q19 => ?_) (fun q19 => ?_)
  · replace F := F.1 q19
    exact x_return hM d_WP_noteActChange_34 rfl F
  · replace F := F.2 q19
    refine x_aload_n hM d_WP_noteActChange_6 rfl 0 rfl ?_
    obtain ⟨c17, F⟩ := F
    obtain ⟨c18, F⟩ := F
    refine x_getr hG hM ck_WP 0 (Nat.le_of_ble_eq_true rfl) rfl rfl w_402 rfl d_WP_noteActChange_7 c17 c18 ?_
    obtain ⟨c15, F⟩ := F
    obtain ⟨c16, F⟩ := F
    refine x_getr hG hM ck_Wo 5 (Nat.le_of_ble_eq_true rfl) rfl rfl w_146 rfl d_WP_noteActChange_10 c15 c16 ?_
    refine x_iload_n hM d_WP_noteActChange_13 rfl 1 rfl ?_
    obtain ⟨c12, F⟩ := F
    obtain ⟨c13, F⟩ := F
    obtain ⟨c14, F⟩ := F
    refine x_aaload hG hM 53 rfl (Nat.le_of_ble_eq_true rfl) d_WP_noteActChange_14 c12 c13 c14 ?_
    refine x_iconst (v := 0) hM d_WP_noteActChange_15 (by decide) ?_
    obtain ⟨c11, F⟩ := F
    obtain ⟨h1, eh1⟩ : ∃ z : Hp, z = wI h (rf h (rf h (rf h v0 0) 5) (Int32.toNatClampNeg v1)) 3 0 := ⟨_, rfl⟩
    replace F := F h1 eh1
    refine x_putz hG hM ck_Ac 3 (Nat.le_of_ble_eq_true rfl) rfl rfl w_113 rfl d_WP_noteActChange_16 (Or.inl rfl) c11 (Or.inl rfl) ?_
    rw [← eh1]
    clear eh1
    refine x_aload_n hM d_WP_noteActChange_19 rfl 0 rfl ?_
    obtain ⟨c9, F⟩ := F
    obtain ⟨c10, F⟩ := F
    refine x_getr hG hM ck_WP 0 (Nat.le_of_ble_eq_true rfl) rfl rfl w_402 rfl d_WP_noteActChange_20 c9 c10 ?_
    refine x_iconst (v := 0) hM d_WP_noteActChange_23 (by decide) ?_
    obtain ⟨c8, F⟩ := F
    obtain ⟨h2, eh2⟩ : ∃ z : Hp, z = wI h1 (rf h1 v0 0) 9 0 := ⟨_, rfl⟩
    replace F := F h2 eh2
    refine x_putz hG hM ck_Wo 9 (Nat.le_of_ble_eq_true rfl) rfl rfl w_161 rfl d_WP_noteActChange_24 (Or.inl rfl) c8 (Or.inl rfl) ?_
    rw [← eh2]
    clear eh2
    refine x_aload_n hM d_WP_noteActChange_27 rfl 0 rfl ?_
    obtain ⟨c6, F⟩ := F
    obtain ⟨c7, F⟩ := F
    refine x_getr hG hM ck_WP 3 (Nat.le_of_ble_eq_true rfl) rfl rfl w_405 rfl d_WP_noteActChange_28 c6 c7 ?_
    obtain ⟨c5, F⟩ := F
    refine x_callV hG hM (r' := r_Ch_inWorld) (ci := 6) [] rfl rfl (Nat.le_of_ble_eq_true rfl) yk_Ch_inWorld ⟨Nat.le_of_ble_eq_true rfl, Nat.le_of_ble_eq_true rfl⟩ w_444 w_445 w_446 rfl rfl (Nat.le_of_ble_eq_true rfl) d_WP_noteActChange_31 c5 (sem_mono F ?_)
    intro u4 h3 F
    obtain ⟨rfl, F⟩ := F
    exact x_return hM d_WP_noteActChange_34 rfl F
theorem d_WP_when_0 : decode b_WP_when 0 = .ok (.aload_n 0, 1) := by decide +kernel
theorem d_WP_when_1 : decode b_WP_when 1 = .ok (.getfield 12, 3) := by decide +kernel
theorem d_WP_when_4 : decode b_WP_when 4 = .ok (.iload_n 1, 1) := by decide +kernel
theorem d_WP_when_5 : decode b_WP_when 5 = .ok (.invokevirtual 107, 3) := by decide +kernel
theorem d_WP_when_8 : decode b_WP_when 8 = .ok (.ifCond .eq 17, 3) := by decide +kernel
theorem d_WP_when_11 : decode b_WP_when 11 = .ok (.aload_n 0, 1) := by decide +kernel
theorem d_WP_when_12 : decode b_WP_when 12 = .ok (.getfield 12, 3) := by decide +kernel
theorem d_WP_when_15 : decode b_WP_when 15 = .ok (.iload_n 2, 1) := by decide +kernel
theorem d_WP_when_16 : decode b_WP_when 16 = .ok (.iload_n 3, 1) := by decide +kernel
theorem d_WP_when_17 : decode b_WP_when 17 = .ok (.iload 4, 2) := by decide +kernel
theorem d_WP_when_19 : decode b_WP_when 19 = .ok (.invokevirtual 123, 3) := by decide +kernel
theorem d_WP_when_22 : decode b_WP_when 22 = .ok (.ifCond .ne 6, 3) := by decide +kernel
theorem d_WP_when_25 : decode b_WP_when 25 = .ok (.bipush (-2), 2) := by decide +kernel
theorem d_WP_when_27 : decode b_WP_when 27 = .ok (.ireturn, 1) := by decide +kernel
theorem d_WP_when_28 : decode b_WP_when 28 = .ok (.aload_n 0, 1) := by decide +kernel
theorem d_WP_when_29 : decode b_WP_when 29 = .ok (.getfield 12, 3) := by decide +kernel
theorem d_WP_when_32 : decode b_WP_when 32 = .ok (.getfield 110, 3) := by decide +kernel
theorem d_WP_when_35 : decode b_WP_when 35 = .ok (.iload_n 1, 1) := by decide +kernel
theorem d_WP_when_36 : decode b_WP_when 36 = .ok (.aaload, 1) := by decide +kernel
theorem d_WP_when_37 : decode b_WP_when 37 = .ok (.getfield 127, 3) := by decide +kernel
theorem d_WP_when_40 : decode b_WP_when 40 = .ok (.iload_n 2, 1) := by decide +kernel
theorem d_WP_when_41 : decode b_WP_when 41 = .ok (.iload_n 3, 1) := by decide +kernel
theorem d_WP_when_42 : decode b_WP_when 42 = .ok (.iload 4, 2) := by decide +kernel
theorem d_WP_when_44 : decode b_WP_when 44 = .ok (.invokevirtual 130, 3) := by decide +kernel
theorem d_WP_when_47 : decode b_WP_when 47 = .ok (.istore 5, 2) := by decide +kernel
theorem d_WP_when_49 : decode b_WP_when 49 = .ok (.aload_n 0, 1) := by decide +kernel
theorem d_WP_when_50 : decode b_WP_when 50 = .ok (.iload_n 1, 1) := by decide +kernel
theorem d_WP_when_51 : decode b_WP_when 51 = .ok (.iload 5, 2) := by decide +kernel
theorem d_WP_when_53 : decode b_WP_when 53 = .ok (.invokevirtual 119, 3) := by decide +kernel
theorem d_WP_when_56 : decode b_WP_when 56 = .ok (.iload 5, 2) := by decide +kernel
theorem d_WP_when_58 : decode b_WP_when 58 = .ok (.ireturn, 1) := by decide +kernel
set_option maxRecDepth 100000 in
set_option maxHeartbeats 4000000 in
theorem S_WP_when_0 {G : Gc} {M : Mc} {Q : State → Prop} {K : Option Value → Hp → Prop} (hG : gok G) (hM : mok G M r_WP_when Q K) (v0 : Nat) (v1 : Int32) (v2 : Int32) (v3 : Int32) (v4 : Int32) (h : Hp) (F : kT h v0 = 1 ∧ kR h v0 0 = some (rf h v0 0) ∧ (kT h (rf h v0 0) = 2 ∧ sem G r_Wo_isAct [.ref (rf h v0 0), .int v1] h (fun u2 h1 => ∃ x3 : Int32, u2 = some (.int x3) ∧ ((x3 = 0 → K (some (.int (-2))) h1) ∧ (¬ x3 = 0 → (kT h1 v0 = 1 ∧ kR h1 v0 0 = some (rf h1 v0 0) ∧ (kT h1 (rf h1 v0 0) = 2 ∧ sem G r_Wo_isCondition [.ref (rf h1 v0 0), .int v2, .int v3, .int v4] h1 (fun u5 h4 => ∃ x6 : Int32, u5 = some (.int x6) ∧ ((x6 = 0 → K (some (.int (-2))) h4) ∧ (¬ x6 = 0 → (kT h4 v0 = 1 ∧ kR h4 v0 0 = some (rf h4 v0 0) ∧ (kT h4 (rf h4 v0 0) = 2 ∧ kR h4 (rf h4 v0 0) 5 = some (rf h4 (rf h4 v0 0) 5) ∧ (kT h4 (rf h4 (rf h4 v0 0) 5) = 53 ∧ vp_in v1 (kN h4 (rf h4 (rf h4 v0 0) 5)) ∧ kR h4 (rf h4 (rf h4 v0 0) 5) (Int32.toNatClampNeg v1) = some (rf h4 (rf h4 (rf h4 v0 0) 5) (Int32.toNatClampNeg v1)) ∧ (kT h4 (rf h4 (rf h4 (rf h4 v0 0) 5) (Int32.toNatClampNeg v1)) = 3 ∧ kR h4 (rf h4 (rf h4 (rf h4 v0 0) 5) (Int32.toNatClampNeg v1)) 0 = some (rf h4 (rf h4 (rf h4 (rf h4 v0 0) 5) (Int32.toNatClampNeg v1)) 0) ∧ (kT h4 (rf h4 (rf h4 (rf h4 (rf h4 v0 0) 5) (Int32.toNatClampNeg v1)) 0) = 5 ∧ sem G r_Cl_add [.ref (rf h4 (rf h4 (rf h4 (rf h4 v0 0) 5) (Int32.toNatClampNeg v1)) 0), .int v2, .int v3, .int v4] h4 (fun u8 h7 => ∃ x9 : Int32, u8 = some (.int x9) ∧ (kT h7 v0 = 1 ∧ sem G r_WP_noteActChange [.ref v0, .int v1, .int x9] h7 (fun u11 h10 => u11 = none ∧ K (some (.int x9)) h10)))))))))))))))))) : X G M Q 0 [(0, .ref v0), (1, .int v1), (2, .int v2), (3, .int v3), (4, .int v4)] [] h := by
  refine x_aload_n hM d_WP_when_0 rfl 0 rfl ?_
  obtain ⟨c29, F⟩ := F
  obtain ⟨c30, F⟩ := F
  refine x_getr hG hM ck_WP 0 (Nat.le_of_ble_eq_true rfl) rfl rfl w_402 rfl d_WP_when_1 c29 c30 ?_
  refine x_iload_n hM d_WP_when_4 rfl 1 rfl ?_
  obtain ⟨c28, F⟩ := F
  refine x_callV hG hM (r' := r_Wo_isAct) (ci := 1) [.int v1] rfl rfl (Nat.le_of_ble_eq_true rfl) yk_Wo_isAct ⟨Nat.le_of_ble_eq_true rfl, Nat.le_of_ble_eq_true rfl⟩ w_484 w_485 w_486 rfl rfl (Nat.le_of_ble_eq_true rfl) d_WP_when_5 c28 (sem_mono F ?_)
  intro u2 h1 F
  obtain ⟨x3, rfl, F⟩ := F
  refine x_if_eq (tgt := 25) hM d_WP_when_8 (by decide) (fun q27 => ?_) (fun q27 => ?_)
  · replace F := F.1 q27
    refine x_bipush (v := (-2)) hM d_WP_when_25 (by decide) ?_
    exact x_ireturn hM d_WP_when_27 rfl F
  · replace F := F.2 q27
    refine x_aload_n hM d_WP_when_11 rfl 0 rfl ?_
    obtain ⟨c25, F⟩ := F
    obtain ⟨c26, F⟩ := F
    refine x_getr hG hM ck_WP 0 (Nat.le_of_ble_eq_true rfl) rfl rfl w_402 rfl d_WP_when_12 c25 c26 ?_
    refine x_iload_n hM d_WP_when_15 rfl 2 rfl ?_
    refine x_iload_n hM d_WP_when_16 rfl 3 rfl ?_
    refine x_iload hM d_WP_when_17 4 rfl ?_
    obtain ⟨c24, F⟩ := F
    refine x_callV hG hM (r' := r_Wo_isCondition) (ci := 1) [.int v2, .int v3, .int v4] rfl rfl (Nat.le_of_ble_eq_true rfl) yk_Wo_isCondition ⟨Nat.le_of_ble_eq_true rfl, Nat.le_of_ble_eq_true rfl⟩ w_500 w_501 w_502 rfl rfl (Nat.le_of_ble_eq_true rfl) d_WP_when_19 c24 (sem_mono F ?_)
    intro u5 h4 F
    obtain ⟨x6, rfl, F⟩ := F
    refine x_if_ne (tgt := 28) hM d_WP_when_22 (by decide) (fun q23 => ?_) (fun q23 => ?_)
    · replace F := F.2 q23
      refine x_aload_n hM d_WP_when_28 rfl 0 rfl ?_
      obtain ⟨c21, F⟩ := F
      obtain ⟨c22, F⟩ := F
      refine x_getr hG hM ck_WP 0 (Nat.le_of_ble_eq_true rfl) rfl rfl w_402 rfl d_WP_when_29 c21 c22 ?_
      obtain ⟨c19, F⟩ := F
      obtain ⟨c20, F⟩ := F
      refine x_getr hG hM ck_Wo 5 (Nat.le_of_ble_eq_true rfl) rfl rfl w_146 rfl d_WP_when_32 c19 c20 ?_
      refine x_iload_n hM d_WP_when_35 rfl 1 rfl ?_
      obtain ⟨c16, F⟩ := F
      obtain ⟨c17, F⟩ := F
      obtain ⟨c18, F⟩ := F
      refine x_aaload hG hM 53 rfl (Nat.le_of_ble_eq_true rfl) d_WP_when_36 c16 c17 c18 ?_
      obtain ⟨c14, F⟩ := F
      obtain ⟨c15, F⟩ := F
      refine x_getr hG hM ck_Ac 0 (Nat.le_of_ble_eq_true rfl) rfl rfl w_95 rfl d_WP_when_37 c14 c15 ?_
      refine x_iload_n hM d_WP_when_40 rfl 2 rfl ?_
      refine x_iload_n hM d_WP_when_41 rfl 3 rfl ?_
      refine x_iload hM d_WP_when_42 4 rfl ?_
      obtain ⟨c13, F⟩ := F
      refine x_callV hG hM (r' := r_Cl_add) (ci := 4) [.int v2, .int v3, .int v4] rfl rfl (Nat.le_of_ble_eq_true rfl) yk_Cl_add ⟨Nat.le_of_ble_eq_true rfl, Nat.le_of_ble_eq_true rfl⟩ w_508 w_509 w_510 rfl rfl (Nat.le_of_ble_eq_true rfl) d_WP_when_44 c13 (sem_mono F ?_)
      intro u8 h7 F
      obtain ⟨x9, rfl, F⟩ := F
      refine x_istore (lv2 := [(5, .int x9), (0, .ref v0), (1, .int v1), (2, .int v2), (3, .int v3), (4, .int v4)]) hM d_WP_when_47 (Nat.le_of_ble_eq_true rfl) rfl ?_
      refine x_aload_n hM d_WP_when_49 rfl 1 rfl ?_
      refine x_iload_n hM d_WP_when_50 rfl 2 rfl ?_
      refine x_iload hM d_WP_when_51 0 rfl ?_
      obtain ⟨c12, F⟩ := F
      refine x_callV hG hM (r' := r_WP_noteActChange) (ci := 0) [.int v1, .int x9] rfl rfl (Nat.le_of_ble_eq_true rfl) yk_WP_noteActChange ⟨Nat.le_of_ble_eq_true rfl, Nat.le_of_ble_eq_true rfl⟩ w_492 w_494 ws_WP_noteActChange rfl rfl (Nat.le_of_ble_eq_true rfl) d_WP_when_53 c12 (sem_mono F ?_)
      intro u11 h10 F
      obtain ⟨rfl, F⟩ := F
      refine x_iload hM d_WP_when_56 0 rfl ?_
      exact x_ireturn hM d_WP_when_58 rfl F
    · replace F := F.1 q23
      refine x_bipush (v := (-2)) hM d_WP_when_25 (by decide) ?_
      exact x_ireturn hM d_WP_when_27 rfl F
theorem d_WP_effect_0 : decode b_WP_effect 0 = .ok (.aload_n 0, 1) := by decide +kernel
theorem d_WP_effect_1 : decode b_WP_effect 1 = .ok (.getfield 12, 3) := by decide +kernel
theorem d_WP_effect_4 : decode b_WP_effect 4 = .ok (.iload_n 1, 1) := by decide +kernel
theorem d_WP_effect_5 : decode b_WP_effect 5 = .ok (.iload_n 2, 1) := by decide +kernel
theorem d_WP_effect_6 : decode b_WP_effect 6 = .ok (.invokevirtual 134, 3) := by decide +kernel
theorem d_WP_effect_9 : decode b_WP_effect 9 = .ok (.ifCond .eq 18, 3) := by decide +kernel
theorem d_WP_effect_12 : decode b_WP_effect 12 = .ok (.aload_n 0, 1) := by decide +kernel
theorem d_WP_effect_13 : decode b_WP_effect 13 = .ok (.getfield 12, 3) := by decide +kernel
theorem d_WP_effect_16 : decode b_WP_effect 16 = .ok (.iload_n 3, 1) := by decide +kernel
theorem d_WP_effect_17 : decode b_WP_effect 17 = .ok (.iload 4, 2) := by decide +kernel
theorem d_WP_effect_19 : decode b_WP_effect 19 = .ok (.iload 5, 2) := by decide +kernel
theorem d_WP_effect_21 : decode b_WP_effect 21 = .ok (.invokevirtual 138, 3) := by decide +kernel
theorem d_WP_effect_24 : decode b_WP_effect 24 = .ok (.ifCond .ne 6, 3) := by decide +kernel
theorem d_WP_effect_27 : decode b_WP_effect 27 = .ok (.bipush (-2), 2) := by decide +kernel
theorem d_WP_effect_29 : decode b_WP_effect 29 = .ok (.ireturn, 1) := by decide +kernel
theorem d_WP_effect_30 : decode b_WP_effect 30 = .ok (.aload_n 0, 1) := by decide +kernel
theorem d_WP_effect_31 : decode b_WP_effect 31 = .ok (.getfield 12, 3) := by decide +kernel
theorem d_WP_effect_34 : decode b_WP_effect 34 = .ok (.getfield 110, 3) := by decide +kernel
theorem d_WP_effect_37 : decode b_WP_effect 37 = .ok (.iload_n 1, 1) := by decide +kernel
theorem d_WP_effect_38 : decode b_WP_effect 38 = .ok (.aaload, 1) := by decide +kernel
theorem d_WP_effect_39 : decode b_WP_effect 39 = .ok (.getfield 141, 3) := by decide +kernel
theorem d_WP_effect_42 : decode b_WP_effect 42 = .ok (.iload_n 2, 1) := by decide +kernel
theorem d_WP_effect_43 : decode b_WP_effect 43 = .ok (.aaload, 1) := by decide +kernel
theorem d_WP_effect_44 : decode b_WP_effect 44 = .ok (.getfield 145, 3) := by decide +kernel
theorem d_WP_effect_47 : decode b_WP_effect 47 = .ok (.iload_n 3, 1) := by decide +kernel
theorem d_WP_effect_48 : decode b_WP_effect 48 = .ok (.iload 4, 2) := by decide +kernel
theorem d_WP_effect_50 : decode b_WP_effect 50 = .ok (.iload 5, 2) := by decide +kernel
theorem d_WP_effect_52 : decode b_WP_effect 52 = .ok (.invokevirtual 130, 3) := by decide +kernel
theorem d_WP_effect_55 : decode b_WP_effect 55 = .ok (.istore 6, 2) := by decide +kernel
theorem d_WP_effect_57 : decode b_WP_effect 57 = .ok (.aload_n 0, 1) := by decide +kernel
theorem d_WP_effect_58 : decode b_WP_effect 58 = .ok (.iload_n 1, 1) := by decide +kernel
theorem d_WP_effect_59 : decode b_WP_effect 59 = .ok (.iload 6, 2) := by decide +kernel
theorem d_WP_effect_61 : decode b_WP_effect 61 = .ok (.invokevirtual 119, 3) := by decide +kernel
theorem d_WP_effect_64 : decode b_WP_effect 64 = .ok (.iload 6, 2) := by decide +kernel
theorem d_WP_effect_66 : decode b_WP_effect 66 = .ok (.ireturn, 1) := by decide +kernel
set_option maxRecDepth 100000 in
set_option maxHeartbeats 4000000 in
theorem S_WP_effect_0 {G : Gc} {M : Mc} {Q : State → Prop} {K : Option Value → Hp → Prop} (hG : gok G) (hM : mok G M r_WP_effect Q K) (v0 : Nat) (v1 : Int32) (v2 : Int32) (v3 : Int32) (v4 : Int32) (v5 : Int32) (h : Hp) (F : kT h v0 = 1 ∧ kR h v0 0 = some (rf h v0 0) ∧ (kT h (rf h v0 0) = 2 ∧ sem G r_Wo_isOutcome [.ref (rf h v0 0), .int v1, .int v2] h (fun u2 h1 => ∃ x3 : Int32, u2 = some (.int x3) ∧ ((x3 = 0 → K (some (.int (-2))) h1) ∧ (¬ x3 = 0 → (kT h1 v0 = 1 ∧ kR h1 v0 0 = some (rf h1 v0 0) ∧ (kT h1 (rf h1 v0 0) = 2 ∧ sem G r_Wo_isEffect [.ref (rf h1 v0 0), .int v3, .int v4, .int v5] h1 (fun u5 h4 => ∃ x6 : Int32, u5 = some (.int x6) ∧ ((x6 = 0 → K (some (.int (-2))) h4) ∧ (¬ x6 = 0 → (kT h4 v0 = 1 ∧ kR h4 v0 0 = some (rf h4 v0 0) ∧ (kT h4 (rf h4 v0 0) = 2 ∧ kR h4 (rf h4 v0 0) 5 = some (rf h4 (rf h4 v0 0) 5) ∧ (kT h4 (rf h4 (rf h4 v0 0) 5) = 53 ∧ vp_in v1 (kN h4 (rf h4 (rf h4 v0 0) 5)) ∧ kR h4 (rf h4 (rf h4 v0 0) 5) (Int32.toNatClampNeg v1) = some (rf h4 (rf h4 (rf h4 v0 0) 5) (Int32.toNatClampNeg v1)) ∧ (kT h4 (rf h4 (rf h4 (rf h4 v0 0) 5) (Int32.toNatClampNeg v1)) = 3 ∧ kR h4 (rf h4 (rf h4 (rf h4 v0 0) 5) (Int32.toNatClampNeg v1)) 1 = some (rf h4 (rf h4 (rf h4 (rf h4 v0 0) 5) (Int32.toNatClampNeg v1)) 1) ∧ (kT h4 (rf h4 (rf h4 (rf h4 (rf h4 v0 0) 5) (Int32.toNatClampNeg v1)) 1) = 54 ∧ vp_in v2 (kN h4 (rf h4 (rf h4 (rf h4 (rf h4 v0 0) 5) (Int32.toNatClampNeg v1)) 1)) ∧ kR h4 (rf h4 (rf h4 (rf h4 (rf h4 v0 0) 5) (Int32.toNatClampNeg v1)) 1) (Int32.toNatClampNeg v2) = some (rf h4 (rf h4 (rf h4 (rf h4 (rf h4 v0 0) 5) (Int32.toNatClampNeg v1)) 1) (Int32.toNatClampNeg v2)) ∧ (kT h4 (rf h4 (rf h4 (rf h4 (rf h4 (rf h4 v0 0) 5) (Int32.toNatClampNeg v1)) 1) (Int32.toNatClampNeg v2)) = 4 ∧ kR h4 (rf h4 (rf h4 (rf h4 (rf h4 (rf h4 v0 0) 5) (Int32.toNatClampNeg v1)) 1) (Int32.toNatClampNeg v2)) 0 = some (rf h4 (rf h4 (rf h4 (rf h4 (rf h4 (rf h4 v0 0) 5) (Int32.toNatClampNeg v1)) 1) (Int32.toNatClampNeg v2)) 0) ∧ (kT h4 (rf h4 (rf h4 (rf h4 (rf h4 (rf h4 (rf h4 v0 0) 5) (Int32.toNatClampNeg v1)) 1) (Int32.toNatClampNeg v2)) 0) = 5 ∧ sem G r_Cl_add [.ref (rf h4 (rf h4 (rf h4 (rf h4 (rf h4 (rf h4 v0 0) 5) (Int32.toNatClampNeg v1)) 1) (Int32.toNatClampNeg v2)) 0), .int v3, .int v4, .int v5] h4 (fun u8 h7 => ∃ x9 : Int32, u8 = some (.int x9) ∧ (kT h7 v0 = 1 ∧ sem G r_WP_noteActChange [.ref v0, .int v1, .int x9] h7 (fun u11 h10 => u11 = none ∧ K (some (.int x9)) h10)))))))))))))))))))) : X G M Q 0 [(0, .ref v0), (1, .int v1), (2, .int v2), (3, .int v3), (4, .int v4), (5, .int v5)] [] h := by
  refine x_aload_n hM d_WP_effect_0 rfl 0 rfl ?_
  obtain ⟨c34, F⟩ := F
  obtain ⟨c35, F⟩ := F
  refine x_getr hG hM ck_WP 0 (Nat.le_of_ble_eq_true rfl) rfl rfl w_402 rfl d_WP_effect_1 c34 c35 ?_
  refine x_iload_n hM d_WP_effect_4 rfl 1 rfl ?_
  refine x_iload_n hM d_WP_effect_5 rfl 2 rfl ?_
  obtain ⟨c33, F⟩ := F
  refine x_callV hG hM (r' := r_Wo_isOutcome) (ci := 1) [.int v1, .int v2] rfl rfl (Nat.le_of_ble_eq_true rfl) yk_Wo_isOutcome ⟨Nat.le_of_ble_eq_true rfl, Nat.le_of_ble_eq_true rfl⟩ w_516 w_517 w_518 rfl rfl (Nat.le_of_ble_eq_true rfl) d_WP_effect_6 c33 (sem_mono F ?_)
  intro u2 h1 F
  obtain ⟨x3, rfl, F⟩ := F
  refine x_if_eq (tgt := 27) hM d_WP_effect_9 (by decide) (fun q32 => ?_) (fun q32 => ?_)
  · replace F := F.1 q32
    refine x_bipush (v := (-2)) hM d_WP_effect_27 (by decide) ?_
    exact x_ireturn hM d_WP_effect_29 rfl F
  · replace F := F.2 q32
    refine x_aload_n hM d_WP_effect_12 rfl 0 rfl ?_
    obtain ⟨c30, F⟩ := F
    obtain ⟨c31, F⟩ := F
    refine x_getr hG hM ck_WP 0 (Nat.le_of_ble_eq_true rfl) rfl rfl w_402 rfl d_WP_effect_13 c30 c31 ?_
    refine x_iload_n hM d_WP_effect_16 rfl 3 rfl ?_
    refine x_iload hM d_WP_effect_17 4 rfl ?_
    refine x_iload hM d_WP_effect_19 5 rfl ?_
    obtain ⟨c29, F⟩ := F
    refine x_callV hG hM (r' := r_Wo_isEffect) (ci := 1) [.int v3, .int v4, .int v5] rfl rfl (Nat.le_of_ble_eq_true rfl) yk_Wo_isEffect ⟨Nat.le_of_ble_eq_true rfl, Nat.le_of_ble_eq_true rfl⟩ w_521 w_522 w_523 rfl rfl (Nat.le_of_ble_eq_true rfl) d_WP_effect_21 c29 (sem_mono F ?_)
    intro u5 h4 F
    obtain ⟨x6, rfl, F⟩ := F
    refine x_if_ne (tgt := 30) hM d_WP_effect_24 (by decide) (fun q28 => ?_) (fun q28 => ?_)
    · replace F := F.2 q28
      refine x_aload_n hM d_WP_effect_30 rfl 0 rfl ?_
      obtain ⟨c26, F⟩ := F
      obtain ⟨c27, F⟩ := F
      refine x_getr hG hM ck_WP 0 (Nat.le_of_ble_eq_true rfl) rfl rfl w_402 rfl d_WP_effect_31 c26 c27 ?_
      obtain ⟨c24, F⟩ := F
      obtain ⟨c25, F⟩ := F
      refine x_getr hG hM ck_Wo 5 (Nat.le_of_ble_eq_true rfl) rfl rfl w_146 rfl d_WP_effect_34 c24 c25 ?_
      refine x_iload_n hM d_WP_effect_37 rfl 1 rfl ?_
      obtain ⟨c21, F⟩ := F
      obtain ⟨c22, F⟩ := F
      obtain ⟨c23, F⟩ := F
      refine x_aaload hG hM 53 rfl (Nat.le_of_ble_eq_true rfl) d_WP_effect_38 c21 c22 c23 ?_
      obtain ⟨c19, F⟩ := F
      obtain ⟨c20, F⟩ := F
      refine x_getr hG hM ck_Ac 1 (Nat.le_of_ble_eq_true rfl) rfl rfl w_101 rfl d_WP_effect_39 c19 c20 ?_
      refine x_iload_n hM d_WP_effect_42 rfl 2 rfl ?_
      obtain ⟨c16, F⟩ := F
      obtain ⟨c17, F⟩ := F
      obtain ⟨c18, F⟩ := F
      refine x_aaload hG hM 54 rfl (Nat.le_of_ble_eq_true rfl) d_WP_effect_43 c16 c17 c18 ?_
      obtain ⟨c14, F⟩ := F
      obtain ⟨c15, F⟩ := F
      refine x_getr hG hM ck_Ou 0 (Nat.le_of_ble_eq_true rfl) rfl rfl w_75 rfl d_WP_effect_44 c14 c15 ?_
      refine x_iload_n hM d_WP_effect_47 rfl 3 rfl ?_
      refine x_iload hM d_WP_effect_48 4 rfl ?_
      refine x_iload hM d_WP_effect_50 5 rfl ?_
      obtain ⟨c13, F⟩ := F
      refine x_callV hG hM (r' := r_Cl_add) (ci := 4) [.int v3, .int v4, .int v5] rfl rfl (Nat.le_of_ble_eq_true rfl) yk_Cl_add ⟨Nat.le_of_ble_eq_true rfl, Nat.le_of_ble_eq_true rfl⟩ w_508 w_509 w_510 rfl rfl (Nat.le_of_ble_eq_true rfl) d_WP_effect_52 c13 (sem_mono F ?_)
      intro u8 h7 F
      obtain ⟨x9, rfl, F⟩ := F
      refine x_istore (lv2 := [(6, .int x9), (0, .ref v0), (1, .int v1), (2, .int v2), (3, .int v3), (4, .int v4), (5, .int v5)]) hM d_WP_effect_55 (Nat.le_of_ble_eq_true rfl) rfl ?_
      refine x_aload_n hM d_WP_effect_57 rfl 1 rfl ?_
      refine x_iload_n hM d_WP_effect_58 rfl 2 rfl ?_
      refine x_iload hM d_WP_effect_59 0 rfl ?_
      obtain ⟨c12, F⟩ := F
      refine x_callV hG hM (r' := r_WP_noteActChange) (ci := 0) [.int v1, .int x9] rfl rfl (Nat.le_of_ble_eq_true rfl) yk_WP_noteActChange ⟨Nat.le_of_ble_eq_true rfl, Nat.le_of_ble_eq_true rfl⟩ w_492 w_494 ws_WP_noteActChange rfl rfl (Nat.le_of_ble_eq_true rfl) d_WP_effect_61 c12 (sem_mono F ?_)
      intro u11 h10 F
      obtain ⟨rfl, F⟩ := F
      refine x_iload hM d_WP_effect_64 0 rfl ?_
      exact x_ireturn hM d_WP_effect_66 rfl F
    · replace F := F.1 q28
      refine x_bipush (v := (-2)) hM d_WP_effect_27 (by decide) ?_
      exact x_ireturn hM d_WP_effect_29 rfl F
