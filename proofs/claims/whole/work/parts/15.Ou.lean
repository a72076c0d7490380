theorem d_Ou_init_0 : decode b_Ou_init 0 = .ok (.aload_n 0, 1) := by decide +kernel
theorem d_Ou_init_1 : decode b_Ou_init 1 = .ok (.invokespecial 1, 3) := by decide +kernel
theorem d_Ou_init_4 : decode b_Ou_init 4 = .ok (.aload_n 0, 1) := by decide +kernel
theorem d_Ou_init_5 : decode b_Ou_init 5 = .ok (.new 7, 3) := by decide +kernel
theorem d_Ou_init_8 : decode b_Ou_init 8 = .ok (.dup, 1) := by decide +kernel
theorem d_Ou_init_9 : decode b_Ou_init 9 = .ok (.invokespecial 9, 3) := by decide +kernel
theorem d_Ou_init_12 : decode b_Ou_init 12 = .ok (.putfield 10, 3) := by decide +kernel
theorem d_Ou_init_15 : decode b_Ou_init 15 = .ok (.aload_n 0, 1) := by decide +kernel
theorem d_Ou_init_16 : decode b_Ou_init 16 = .ok (.iconst 0, 1) := by decide +kernel
theorem d_Ou_init_17 : decode b_Ou_init 17 = .ok (.newarray .int, 2) := by decide +kernel
theorem d_Ou_init_19 : decode b_Ou_init 19 = .ok (.putfield 16, 3) := by decide +kernel
theorem d_Ou_init_22 : decode b_Ou_init 22 = .ok (.aload_n 0, 1) := by decide +kernel
theorem d_Ou_init_23 : decode b_Ou_init 23 = .ok (.iconst 0, 1) := by decide +kernel
theorem d_Ou_init_24 : decode b_Ou_init 24 = .ok (.newarray .int, 2) := by decide +kernel
theorem d_Ou_init_26 : decode b_Ou_init 26 = .ok (.putfield 20, 3) := by decide +kernel
theorem d_Ou_init_29 : decode b_Ou_init 29 = .ok (.return_, 1) := by decide +kernel
set_option maxRecDepth 100000 in
set_option maxHeartbeats 4000000 in
theorem S_Ou_init_0 {G : Gc} {M : Mc} {Q : State → Prop} {K : Option Value → Hp → Prop} (hG : gok G) (hM : mok G M r_Ou_init Q K) (v0 : Nat) (h : Hp) (F : kX h + 1 ≤ gB G + capC ∧ kS h + 4 ≤ capS ∧ (∀ h1 : Hp, h1 = wA h 5 0 4 → (sem G r_Cl_init [.ref (kX h)] h1 (fun u3 h2 => u3 = none ∧ (kT h2 v0 = 4 ∧ (∀ h4 : Hp, h4 = wR h2 v0 0 (some (kX h)) → (kX h4 + 1 ≤ gB G + capC ∧ kS h4 + 0 ≤ capS ∧ (∀ h5 : Hp, h5 = wA h4 50 0 0 → (kT h5 v0 = 4 ∧ (∀ h6 : Hp, h6 = wR h5 v0 1 (some (kX h4)) → (kX h6 + 1 ≤ gB G + capC ∧ kS h6 + 0 ≤ capS ∧ (∀ h7 : Hp, h7 = wA h6 50 0 0 → (kT h7 v0 = 4 ∧ (∀ h8 : Hp, h8 = wR h7 v0 2 (some (kX h6)) → K none h8)))))))))))))) : X G M Q 0 [(0, .ref v0)] [] h := by
  refine x_aload_n hM d_Ou_init_0 rfl 0 rfl ?_
  refine x_objInit hG hM rfl w_70 w_22 w_objcode d_Ou_init_1 (Nat.le_of_ble_eq_true rfl) (Nat.le_of_ble_eq_true rfl) (Nat.le_of_ble_eq_true rfl) ?_
  refine x_aload_n hM d_Ou_init_4 rfl 0 rfl ?_
  obtain ⟨c16, F⟩ := F
  obtain ⟨c17, F⟩ := F
  obtain ⟨h1, eh1⟩ : ∃ z : Hp, z = wA h 5 0 4 := ⟨_, rfl⟩
  replace F := F h1 eh1
  refine x_new hG hM ck_Cl rfl w_71 w_38 w_4 dv_Cl d_Ou_init_5 c16 c17 ?_
  rw [← eh1]
  clear eh1
  refine x_dup hM d_Ou_init_8 rfl ?_
  refine x_callIN hG hM (r' := r_Cl_init) [] rfl yk_Cl_init rfl rfl ⟨Nat.le_of_ble_eq_true rfl, Nat.le_of_ble_eq_true rfl⟩ w_72 w_40 rfl rfl (Nat.le_of_ble_eq_true rfl) d_Ou_init_9 (sem_mono F ?_)
  intro u3 h2 F
  obtain ⟨rfl, F⟩ := F
  obtain ⟨c15, F⟩ := F
  obtain ⟨h4, eh4⟩ : ∃ z : Hp, z = wR h2 v0 0 (some (kX h)) := ⟨_, rfl⟩
  replace F := F h4 eh4
  refine x_putr hG hM ck_Ou 0 (Nat.le_of_ble_eq_true rfl) (Or.inl ⟨_, rfl⟩) rfl w_73 rfl d_Ou_init_12 (Or.inr ⟨rfl, rfl, rfl⟩) c15 ?_
  rw [← eh4]
  clear eh4
  refine x_aload_n hM d_Ou_init_15 rfl 0 rfl ?_
  refine x_iconst (v := 0) hM d_Ou_init_16 (by decide) ?_
  obtain ⟨c13, F⟩ := F
  obtain ⟨c14, F⟩ := F
  obtain ⟨h5, eh5⟩ : ∃ z : Hp, z = wA h4 50 0 0 := ⟨_, rfl⟩
  replace F := F h5 eh5
  refine x_newI hG hM (N := 0) w_63 d_Ou_init_17 (by decide) rfl c13 c14 ?_
  rw [← eh5]
  clear eh5
  obtain ⟨c12, F⟩ := F
  obtain ⟨h6, eh6⟩ : ∃ z : Hp, z = wR h5 v0 1 (some (kX h4)) := ⟨_, rfl⟩
  replace F := F h6 eh6
  refine x_putr hG hM ck_Ou 1 (Nat.le_of_ble_eq_true rfl) (Or.inr ⟨_, rfl⟩) rfl w_76 rfl d_Ou_init_19 (Or.inl rfl) c12 ?_
  rw [← eh6]
  clear eh6
  refine x_aload_n hM d_Ou_init_22 rfl 0 rfl ?_
  refine x_iconst (v := 0) hM d_Ou_init_23 (by decide) ?_
  obtain ⟨c10, F⟩ := F
  obtain ⟨c11, F⟩ := F
  obtain ⟨h7, eh7⟩ : ∃ z : Hp, z = wA h6 50 0 0 := ⟨_, rfl⟩
  replace F := F h7 eh7
  refine x_newI hG hM (N := 0) w_63 d_Ou_init_24 (by decide) rfl c10 c11 ?_
  rw [← eh7]
  clear eh7
  obtain ⟨c9, F⟩ := F
  obtain ⟨h8, eh8⟩ : ∃ z : Hp, z = wR h7 v0 2 (some (kX h6)) := ⟨_, rfl⟩
  replace F := F h8 eh8
  refine x_putr hG hM ck_Ou 2 (Nat.le_of_ble_eq_true rfl) (Or.inr ⟨_, rfl⟩) rfl w_84 rfl d_Ou_init_26 (Or.inl rfl) c9 ?_
  rw [← eh8]
  clear eh8
  exact x_return hM d_Ou_init_29 rfl F
