theorem d_Wi_init_0 : decode b_Wi_init 0 = .ok (.aload_n 0, 1) := by decide +kernel
theorem d_Wi_init_1 : decode b_Wi_init 1 = .ok (.invokespecial 3, 3) := by decide +kernel
theorem d_Wi_init_4 : decode b_Wi_init 4 = .ok (.aload_n 0, 1) := by decide +kernel
theorem d_Wi_init_5 : decode b_Wi_init 5 = .ok (.iconst 0, 1) := by decide +kernel
theorem d_Wi_init_6 : decode b_Wi_init 6 = .ok (.newarray .boolean, 2) := by decide +kernel
theorem d_Wi_init_8 : decode b_Wi_init 8 = .ok (.putfield 9, 3) := by decide +kernel
theorem d_Wi_init_11 : decode b_Wi_init 11 = .ok (.aload_n 0, 1) := by decide +kernel
theorem d_Wi_init_12 : decode b_Wi_init 12 = .ok (.iconst 0, 1) := by decide +kernel
theorem d_Wi_init_13 : decode b_Wi_init 13 = .ok (.putfield 15, 3) := by decide +kernel
theorem d_Wi_init_16 : decode b_Wi_init 16 = .ok (.aload_n 0, 1) := by decide +kernel
theorem d_Wi_init_17 : decode b_Wi_init 17 = .ok (.lconst 0, 1) := by decide +kernel
theorem d_Wi_init_18 : decode b_Wi_init 18 = .ok (.putfield 19, 3) := by decide +kernel
theorem d_Wi_init_21 : decode b_Wi_init 21 = .ok (.aload_n 0, 1) := by decide +kernel
theorem d_Wi_init_22 : decode b_Wi_init 22 = .ok (.iconst 0, 1) := by decide +kernel
theorem d_Wi_init_23 : decode b_Wi_init 23 = .ok (.newarray .int, 2) := by decide +kernel
theorem d_Wi_init_25 : decode b_Wi_init 25 = .ok (.putfield 23, 3) := by decide +kernel
theorem d_Wi_init_28 : decode b_Wi_init 28 = .ok (.aload_n 0, 1) := by decide +kernel
theorem d_Wi_init_29 : decode b_Wi_init 29 = .ok (.iconst 0, 1) := by decide +kernel
theorem d_Wi_init_30 : decode b_Wi_init 30 = .ok (.newarray .int, 2) := by decide +kernel
theorem d_Wi_init_32 : decode b_Wi_init 32 = .ok (.putfield 27, 3) := by decide +kernel
theorem d_Wi_init_35 : decode b_Wi_init 35 = .ok (.aload_n 0, 1) := by decide +kernel
theorem d_Wi_init_36 : decode b_Wi_init 36 = .ok (.iconst 0, 1) := by decide +kernel
theorem d_Wi_init_37 : decode b_Wi_init 37 = .ok (.newarray .int, 2) := by decide +kernel
theorem d_Wi_init_39 : decode b_Wi_init 39 = .ok (.putfield 30, 3) := by decide +kernel
theorem d_Wi_init_42 : decode b_Wi_init 42 = .ok (.aload_n 0, 1) := by decide +kernel
theorem d_Wi_init_43 : decode b_Wi_init 43 = .ok (.iconst 4, 1) := by decide +kernel
theorem d_Wi_init_44 : decode b_Wi_init 44 = .ok (.newarray .long, 2) := by decide +kernel
theorem d_Wi_init_46 : decode b_Wi_init 46 = .ok (.putfield 33, 3) := by decide +kernel
theorem d_Wi_init_49 : decode b_Wi_init 49 = .ok (.aload_n 0, 1) := by decide +kernel
theorem d_Wi_init_50 : decode b_Wi_init 50 = .ok (.iconst 0, 1) := by decide +kernel
theorem d_Wi_init_51 : decode b_Wi_init 51 = .ok (.newarray .boolean, 2) := by decide +kernel
theorem d_Wi_init_53 : decode b_Wi_init 53 = .ok (.putfield 37, 3) := by decide +kernel
theorem d_Wi_init_56 : decode b_Wi_init 56 = .ok (.aload_n 0, 1) := by decide +kernel
theorem d_Wi_init_57 : decode b_Wi_init 57 = .ok (.iconst 0, 1) := by decide +kernel
theorem d_Wi_init_58 : decode b_Wi_init 58 = .ok (.newarray .int, 2) := by decide +kernel
theorem d_Wi_init_60 : decode b_Wi_init 60 = .ok (.putfield 40, 3) := by decide +kernel
theorem d_Wi_init_63 : decode b_Wi_init 63 = .ok (.return_, 1) := by decide +kernel
set_option maxRecDepth 100000 in
set_option maxHeartbeats 4000000 in
theorem S_Wi_init_0 {G : Gc} {M : Mc} {Q : State → Prop} {K : Option Value → Hp → Prop} (hG : gok G) (hM : mok G M r_Wi_init Q K) (v0 : Nat) (h : Hp) (F : kX h + 1 ≤ gB G + capC ∧ kS h + 0 ≤ capS ∧ (∀ h1 : Hp, h1 = wA h 51 0 0 → (kT h1 v0 = 9 ∧ (∀ h2 : Hp, h2 = wR h1 v0 0 (some (kX h)) → (kT h2 v0 = 9 ∧ (∀ h3 : Hp, h3 = wI h2 v0 1 0 → (kT h3 v0 = 9 ∧ (∀ h4 : Hp, h4 = wL h3 v0 2 0 → (kX h4 + 1 ≤ gB G + capC ∧ kS h4 + 0 ≤ capS ∧ (∀ h5 : Hp, h5 = wA h4 50 0 0 → (kT h5 v0 = 9 ∧ (∀ h6 : Hp, h6 = wR h5 v0 3 (some (kX h4)) → (kX h6 + 1 ≤ gB G + capC ∧ kS h6 + 0 ≤ capS ∧ (∀ h7 : Hp, h7 = wA h6 50 0 0 → (kT h7 v0 = 9 ∧ (∀ h8 : Hp, h8 = wR h7 v0 4 (some (kX h6)) → (kX h8 + 1 ≤ gB G + capC ∧ kS h8 + 0 ≤ capS ∧ (∀ h9 : Hp, h9 = wA h8 50 0 0 → (kT h9 v0 = 9 ∧ (∀ h10 : Hp, h10 = wR h9 v0 5 (some (kX h8)) → (kX h10 + 1 ≤ gB G + capC ∧ kS h10 + 4 ≤ capS ∧ (∀ h11 : Hp, h11 = wA h10 52 4 4 → (kT h11 v0 = 9 ∧ (∀ h12 : Hp, h12 = wR h11 v0 6 (some (kX h10)) → (kX h12 + 1 ≤ gB G + capC ∧ kS h12 + 0 ≤ capS ∧ (∀ h13 : Hp, h13 = wA h12 51 0 0 → (kT h13 v0 = 9 ∧ (∀ h14 : Hp, h14 = wR h13 v0 7 (some (kX h12)) → (kX h14 + 1 ≤ gB G + capC ∧ kS h14 + 0 ≤ capS ∧ (∀ h15 : Hp, h15 = wA h14 50 0 0 → (kT h15 v0 = 9 ∧ (∀ h16 : Hp, h16 = wR h15 v0 8 (some (kX h14)) → K none h16)))))))))))))))))))))))))))))))) : X G M Q 0 [(0, .ref v0)] [] h := by
  refine x_aload_n hM d_Wi_init_0 rfl 0 rfl ?_
  refine x_objInit hG hM rfl w_282 w_22 w_objcode d_Wi_init_1 (Nat.le_of_ble_eq_true rfl) (Nat.le_of_ble_eq_true rfl) (Nat.le_of_ble_eq_true rfl) ?_
  refine x_aload_n hM d_Wi_init_4 rfl 0 rfl ?_
  refine x_iconst (v := 0) hM d_Wi_init_5 (by decide) ?_
  obtain ⟨c38, F⟩ := F
  obtain ⟨c39, F⟩ := F
  obtain ⟨h1, eh1⟩ : ∃ z : Hp, z = wA h 51 0 0 := ⟨_, rfl⟩
  replace F := F h1 eh1
  refine x_newZ hG hM (N := 0) w_226 d_Wi_init_6 (by decide) rfl c38 c39 ?_
  rw [← eh1]
  clear eh1
  obtain ⟨c37, F⟩ := F
  obtain ⟨h2, eh2⟩ : ∃ z : Hp, z = wR h1 v0 0 (some (kX h)) := ⟨_, rfl⟩
  replace F := F h2 eh2
  refine x_putr hG hM ck_Wi 0 (Nat.le_of_ble_eq_true rfl) (Or.inr ⟨_, rfl⟩) rfl w_283 rfl d_Wi_init_8 (Or.inl rfl) c37 ?_
  rw [← eh2]
  clear eh2
  refine x_aload_n hM d_Wi_init_11 rfl 0 rfl ?_
  refine x_iconst (v := 0) hM d_Wi_init_12 (by decide) ?_
  obtain ⟨c36, F⟩ := F
  obtain ⟨h3, eh3⟩ : ∃ z : Hp, z = wI h2 v0 1 0 := ⟨_, rfl⟩
  replace F := F h3 eh3
  refine x_puti hG hM ck_Wi 1 (Nat.le_of_ble_eq_true rfl) rfl rfl w_285 rfl d_Wi_init_13 (Or.inl rfl) c36 ?_
  rw [← eh3]
  clear eh3
  refine x_aload_n hM d_Wi_init_16 rfl 0 rfl ?_
  refine x_lconst (v := 0) hM d_Wi_init_17 (by decide) ?_
  obtain ⟨c35, F⟩ := F
  obtain ⟨h4, eh4⟩ : ∃ z : Hp, z = wL h3 v0 2 0 := ⟨_, rfl⟩
  replace F := F h4 eh4
  refine x_putl hG hM ck_Wi 2 (Nat.le_of_ble_eq_true rfl) rfl rfl w_287 rfl d_Wi_init_18 (Or.inl rfl) c35 ?_
  rw [← eh4]
  clear eh4
  refine x_aload_n hM d_Wi_init_21 rfl 0 rfl ?_
  refine x_iconst (v := 0) hM d_Wi_init_22 (by decide) ?_
  obtain ⟨c33, F⟩ := F
  obtain ⟨c34, F⟩ := F
  obtain ⟨h5, eh5⟩ : ∃ z : Hp, z = wA h4 50 0 0 := ⟨_, rfl⟩
  replace F := F h5 eh5
  refine x_newI hG hM (N := 0) w_63 d_Wi_init_23 (by decide) rfl c33 c34 ?_
  rw [← eh5]
  clear eh5
  obtain ⟨c32, F⟩ := F
  obtain ⟨h6, eh6⟩ : ∃ z : Hp, z = wR h5 v0 3 (some (kX h4)) := ⟨_, rfl⟩
  replace F := F h6 eh6
  refine x_putr hG hM ck_Wi 3 (Nat.le_of_ble_eq_true rfl) (Or.inr ⟨_, rfl⟩) rfl w_289 rfl d_Wi_init_25 (Or.inl rfl) c32 ?_
  rw [← eh6]
  clear eh6
  refine x_aload_n hM d_Wi_init_28 rfl 0 rfl ?_
  refine x_iconst (v := 0) hM d_Wi_init_29 (by decide) ?_
  obtain ⟨c30, F⟩ := F
  obtain ⟨c31, F⟩ := F
  obtain ⟨h7, eh7⟩ : ∃ z : Hp, z = wA h6 50 0 0 := ⟨_, rfl⟩
  replace F := F h7 eh7
  refine x_newI hG hM (N := 0) w_63 d_Wi_init_30 (by decide) rfl c30 c31 ?_
  rw [← eh7]
  clear eh7
  obtain ⟨c29, F⟩ := F
  obtain ⟨h8, eh8⟩ : ∃ z : Hp, z = wR h7 v0 4 (some (kX h6)) := ⟨_, rfl⟩
  replace F := F h8 eh8
  refine x_putr hG hM ck_Wi 4 (Nat.le_of_ble_eq_true rfl) (Or.inr ⟨_, rfl⟩) rfl w_290 rfl d_Wi_init_32 (Or.inl rfl) c29 ?_
  rw [← eh8]
  clear eh8
  refine x_aload_n hM d_Wi_init_35 rfl 0 rfl ?_
  refine x_iconst (v := 0) hM d_Wi_init_36 (by decide) ?_
  obtain ⟨c27, F⟩ := F
  obtain ⟨c28, F⟩ := F
  obtain ⟨h9, eh9⟩ : ∃ z : Hp, z = wA h8 50 0 0 := ⟨_, rfl⟩
  replace F := F h9 eh9
  refine x_newI hG hM (N := 0) w_63 d_Wi_init_37 (by decide) rfl c27 c28 ?_
  rw [← eh9]
  clear eh9
  obtain ⟨c26, F⟩ := F
  obtain ⟨h10, eh10⟩ : ∃ z : Hp, z = wR h9 v0 5 (some (kX h8)) := ⟨_, rfl⟩
  replace F := F h10 eh10
  refine x_putr hG hM ck_Wi 5 (Nat.le_of_ble_eq_true rfl) (Or.inr ⟨_, rfl⟩) rfl w_291 rfl d_Wi_init_39 (Or.inl rfl) c26 ?_
  rw [← eh10]
  clear eh10
  refine x_aload_n hM d_Wi_init_42 rfl 0 rfl ?_
  refine x_iconst (v := 4) hM d_Wi_init_43 (by decide) ?_
  obtain ⟨c24, F⟩ := F
  obtain ⟨c25, F⟩ := F
  obtain ⟨h11, eh11⟩ : ∃ z : Hp, z = wA h10 52 4 4 := ⟨_, rfl⟩
  replace F := F h11 eh11
  refine x_newL hG hM (N := 4) w_276 d_Wi_init_44 (by decide) rfl c24 c25 ?_
  rw [← eh11]
  clear eh11
  obtain ⟨c23, F⟩ := F
  obtain ⟨h12, eh12⟩ : ∃ z : Hp, z = wR h11 v0 6 (some (kX h10)) := ⟨_, rfl⟩
  replace F := F h12 eh12
  refine x_putr hG hM ck_Wi 6 (Nat.le_of_ble_eq_true rfl) (Or.inr ⟨_, rfl⟩) rfl w_292 rfl d_Wi_init_46 (Or.inr ⟨rfl, rfl, rfl⟩) c23 ?_
  rw [← eh12]
  clear eh12
  refine x_aload_n hM d_Wi_init_49 rfl 0 rfl ?_
  refine x_iconst (v := 0) hM d_Wi_init_50 (by decide) ?_
  obtain ⟨c21, F⟩ := F
  obtain ⟨c22, F⟩ := F
  obtain ⟨h13, eh13⟩ : ∃ z : Hp, z = wA h12 51 0 0 := ⟨_, rfl⟩
  replace F := F h13 eh13
  refine x_newZ hG hM (N := 0) w_226 d_Wi_init_51 (by decide) rfl c21 c22 ?_
  rw [← eh13]
  clear eh13
  obtain ⟨c20, F⟩ := F
  obtain ⟨h14, eh14⟩ : ∃ z : Hp, z = wR h13 v0 7 (some (kX h12)) := ⟨_, rfl⟩
  replace F := F h14 eh14
  refine x_putr hG hM ck_Wi 7 (Nat.le_of_ble_eq_true rfl) (Or.inr ⟨_, rfl⟩) rfl w_294 rfl d_Wi_init_53 (Or.inl rfl) c20 ?_
  rw [← eh14]
  clear eh14
  refine x_aload_n hM d_Wi_init_56 rfl 0 rfl ?_
  refine x_iconst (v := 0) hM d_Wi_init_57 (by decide) ?_
  obtain ⟨c18, F⟩ := F
  obtain ⟨c19, F⟩ := F
  obtain ⟨h15, eh15⟩ : ∃ z : Hp, z = wA h14 50 0 0 := ⟨_, rfl⟩
  replace F := F h15 eh15
  refine x_newI hG hM (N := 0) w_63 d_Wi_init_58 (by decide) rfl c18 c19 ?_
  rw [← eh15]
  clear eh15
  obtain ⟨c17, F⟩ := F
  obtain ⟨h16, eh16⟩ : ∃ z : Hp, z = wR h15 v0 8 (some (kX h14)) := ⟨_, rfl⟩
  replace F := F h16 eh16
  refine x_putr hG hM ck_Wi 8 (Nat.le_of_ble_eq_true rfl) (Or.inr ⟨_, rfl⟩) rfl w_295 rfl d_Wi_init_60 (Or.inl rfl) c17 ?_
  rw [← eh16]
  clear eh16
  exact x_return hM d_Wi_init_63 rfl F
theorem d_Wi_findAim_0 : decode b_Wi_findAim 0 = .ok (.aload_n 0, 1) := by decide +kernel
theorem d_Wi_findAim_1 : decode b_Wi_findAim 1 = .ok (.aload_n 0, 1) := by decide +kernel
theorem d_Wi_findAim_2 : decode b_Wi_findAim 2 = .ok (.getfield 9, 3) := by decide +kernel
theorem d_Wi_findAim_5 : decode b_Wi_findAim 5 = .ok (.aload_n 1, 1) := by decide +kernel
theorem d_Wi_findAim_6 : decode b_Wi_findAim 6 = .ok (.getfield 43, 3) := by decide +kernel
theorem d_Wi_findAim_9 : decode b_Wi_findAim 9 = .ok (.invokestatic 48, 3) := by decide +kernel
theorem d_Wi_findAim_12 : decode b_Wi_findAim 12 = .ok (.putfield 9, 3) := by decide +kernel
theorem d_Wi_findAim_15 : decode b_Wi_findAim 15 = .ok (.aload_n 0, 1) := by decide +kernel
theorem d_Wi_findAim_16 : decode b_Wi_findAim 16 = .ok (.iconst 0, 1) := by decide +kernel
theorem d_Wi_findAim_17 : decode b_Wi_findAim 17 = .ok (.putfield 15, 3) := by decide +kernel
theorem d_Wi_findAim_20 : decode b_Wi_findAim 20 = .ok (.iconst 0, 1) := by decide +kernel
theorem d_Wi_findAim_21 : decode b_Wi_findAim 21 = .ok (.istore_n 3, 1) := by decide +kernel
theorem d_Wi_findAim_22 : decode b_Wi_findAim 22 = .ok (.iload_n 3, 1) := by decide +kernel
theorem d_Wi_findAim_23 : decode b_Wi_findAim 23 = .ok (.aload_n 1, 1) := by decide +kernel
theorem d_Wi_findAim_24 : decode b_Wi_findAim 24 = .ok (.getfield 43, 3) := by decide +kernel
theorem d_Wi_findAim_27 : decode b_Wi_findAim 27 = .ok (.if_icmp .ge 44, 3) := by decide +kernel
theorem d_Wi_findAim_30 : decode b_Wi_findAim 30 = .ok (.aload_n 0, 1) := by decide +kernel
theorem d_Wi_findAim_31 : decode b_Wi_findAim 31 = .ok (.getfield 9, 3) := by decide +kernel
theorem d_Wi_findAim_34 : decode b_Wi_findAim 34 = .ok (.iload_n 3, 1) := by decide +kernel
theorem d_Wi_findAim_35 : decode b_Wi_findAim 35 = .ok (.aload_n 2, 1) := by decide +kernel
theorem d_Wi_findAim_36 : decode b_Wi_findAim 36 = .ok (.aload_n 1, 1) := by decide +kernel
theorem d_Wi_findAim_37 : decode b_Wi_findAim 37 = .ok (.getfield 52, 3) := by decide +kernel
theorem d_Wi_findAim_40 : decode b_Wi_findAim 40 = .ok (.iload_n 3, 1) := by decide +kernel
theorem d_Wi_findAim_41 : decode b_Wi_findAim 41 = .ok (.iaload, 1) := by decide +kernel
theorem d_Wi_findAim_42 : decode b_Wi_findAim 42 = .ok (.invokevirtual 55, 3) := by decide +kernel
theorem d_Wi_findAim_45 : decode b_Wi_findAim 45 = .ok (.bastore, 1) := by decide +kernel
theorem d_Wi_findAim_46 : decode b_Wi_findAim 46 = .ok (.aload_n 0, 1) := by decide +kernel
theorem d_Wi_findAim_47 : decode b_Wi_findAim 47 = .ok (.getfield 9, 3) := by decide +kernel
theorem d_Wi_findAim_50 : decode b_Wi_findAim 50 = .ok (.iload_n 3, 1) := by decide +kernel
theorem d_Wi_findAim_51 : decode b_Wi_findAim 51 = .ok (.baload, 1) := by decide +kernel
theorem d_Wi_findAim_52 : decode b_Wi_findAim 52 = .ok (.ifCond .eq 13, 3) := by decide +kernel
theorem d_Wi_findAim_55 : decode b_Wi_findAim 55 = .ok (.aload_n 0, 1) := by decide +kernel
theorem d_Wi_findAim_56 : decode b_Wi_findAim 56 = .ok (.dup, 1) := by decide +kernel
theorem d_Wi_findAim_57 : decode b_Wi_findAim 57 = .ok (.getfield 15, 3) := by decide +kernel
theorem d_Wi_findAim_60 : decode b_Wi_findAim 60 = .ok (.iconst 1, 1) := by decide +kernel
theorem d_Wi_findAim_61 : decode b_Wi_findAim 61 = .ok (.iadd, 1) := by decide +kernel
theorem d_Wi_findAim_62 : decode b_Wi_findAim 62 = .ok (.putfield 15, 3) := by decide +kernel
theorem d_Wi_findAim_65 : decode b_Wi_findAim 65 = .ok (.iinc 3 1, 3) := by decide +kernel
theorem d_Wi_findAim_68 : decode b_Wi_findAim 68 = .ok (.goto (-46), 3) := by decide +kernel
theorem d_Wi_findAim_71 : decode b_Wi_findAim 71 = .ok (.return_, 1) := by decide +kernel
set_option maxRecDepth 100000 in
set_option maxHeartbeats 4000000 in
theorem S_Wi_findAim_0 {G : Gc} {M : Mc} {Q : State → Prop} {K : Option Value → Hp → Prop} (hG : gok G) (hM : mok G M r_Wi_findAim Q K) (v0 : Nat) (v1 : Nat) (v2 : Nat) (h : Hp) (F : kT h v0 = 9 ∧ kR h v0 0 = some (rf h v0 0) ∧ (kT h v1 = 2 ∧ (sem G r_WP_marksFor [.ref (rf h v0 0), .int (kI h v1 1)] h (fun u2 h1 => ∃ x3 : Nat, u2 = some (.ref x3) ∧ (kT h1 v0 = 9 ∧ (∀ h4 : Hp, h4 = wR h1 v0 0 (some x3) → (kT h4 v0 = 9 ∧ (∀ h5 : Hp, h5 = wI h4 v0 1 0 → X G M Q 22 [(0, .ref v0), (1, .ref v1), (2, .ref v2), (3, .int 0)] [] h5)))))))) : X G M Q 0 [(0, .ref v0), (1, .ref v1), (2, .ref v2)] [] h := by
  refine x_aload_n hM d_Wi_findAim_0 rfl 0 rfl ?_
  refine x_aload_n hM d_Wi_findAim_1 rfl 0 rfl ?_
  obtain ⟨c9, F⟩ := F
  obtain ⟨c10, F⟩ := F
  refine x_getr hG hM ck_Wi 0 (Nat.le_of_ble_eq_true rfl) rfl rfl w_283 rfl d_Wi_findAim_2 c9 c10 ?_
  refine x_aload_n hM d_Wi_findAim_5 rfl 1 rfl ?_
  obtain ⟨c8, F⟩ := F
  refine x_geti hG hM ck_Wo 1 (Nat.le_of_ble_eq_true rfl) rfl rfl w_128 rfl d_Wi_findAim_6 c8 ?_
  refine x_callSN hG hM (r' := r_WP_marksFor) [.ref (rf h v0 0), .int (kI h v1 1)] rfl yk_WP_marksFor ⟨Nat.le_of_ble_eq_true rfl, Nat.le_of_ble_eq_true rfl⟩ w_646 w_647 rfl rfl (Nat.le_of_ble_eq_true rfl) d_Wi_findAim_9 (sem_mono F ?_)
  intro u2 h1 F
  obtain ⟨x3, rfl, F⟩ := F
  obtain ⟨c7, F⟩ := F
  obtain ⟨h4, eh4⟩ : ∃ z : Hp, z = wR h1 v0 0 (some x3) := ⟨_, rfl⟩
  replace F := F h4 eh4
  refine x_putr hG hM ck_Wi 0 (Nat.le_of_ble_eq_true rfl) (Or.inr ⟨_, rfl⟩) rfl w_283 rfl d_Wi_findAim_12 (Or.inl rfl) c7 ?_
  rw [← eh4]
  clear eh4
  refine x_aload_n hM d_Wi_findAim_15 rfl 0 rfl ?_
  refine x_iconst (v := 0) hM d_Wi_findAim_16 (by decide) ?_
  obtain ⟨c6, F⟩ := F
  obtain ⟨h5, eh5⟩ : ∃ z : Hp, z = wI h4 v0 1 0 := ⟨_, rfl⟩
  replace F := F h5 eh5
  refine x_puti hG hM ck_Wi 1 (Nat.le_of_ble_eq_true rfl) rfl rfl w_285 rfl d_Wi_findAim_17 (Or.inl rfl) c6 ?_
  rw [← eh5]
  clear eh5
  refine x_iconst (v := 0) hM d_Wi_findAim_20 (by decide) ?_
  refine x_istore_n (lv2 := [(3, .int 0), (0, .ref v0), (1, .ref v1), (2, .ref v2)]) hM d_Wi_findAim_21 rfl (Nat.le_of_ble_eq_true rfl) rfl ?_
  refine x_sub [1, 2, 3, 0] rfl ?_
  exact F
set_option maxRecDepth 100000 in
set_option maxHeartbeats 4000000 in
theorem S_Wi_findAim_22 {G : Gc} {M : Mc} {Q : State → Prop} {K : Option Value → Hp → Prop} (hG : gok G) (hM : mok G M r_Wi_findAim Q K) (v0 : Nat) (v1 : Nat) (v2 : Nat) (v3 : Int32) (h : Hp) (F : kT h v1 = 2 ∧ (((kI h v1 1) ≤ v3 → K none h) ∧ (¬ (kI h v1 1) ≤ v3 → (kT h v0 = 9 ∧ kR h v0 0 = some (rf h v0 0) ∧ (kT h v1 = 2 ∧ kR h v1 6 = some (rf h v1 6) ∧ (kT h (rf h v1 6) = 50 ∧ vp_in v3 (kN h (rf h v1 6)) ∧ (kT h v2 = 5 ∧ sem G r_Cl_hold [.ref v2, .int (kI h (rf h v1 6) (Int32.toNatClampNeg v3))] h (fun u2 h1 => ∃ x3 : Int32, u2 = some (.int x3) ∧ (kT h1 (rf h v0 0) = 51 ∧ vp_in v3 (kN h1 (rf h v0 0)) ∧ nb x3 ∧ (∀ h4 : Hp, h4 = wI h1 (rf h v0 0) (Int32.toNatClampNeg v3) x3 → (kT h4 v0 = 9 ∧ kR h4 v0 0 = some (rf h4 v0 0) ∧ (kT h4 (rf h4 v0 0) = 51 ∧ vp_in v3 (kN h4 (rf h4 v0 0)) ∧ (((kI h4 (rf h4 v0 0) (Int32.toNatClampNeg v3)) = 0 → X G M Q 22 [(0, .ref v0), (1, .ref v1), (2, .ref v2), (3, .int (v3 + 1))] [] h4) ∧ (¬ (kI h4 (rf h4 v0 0) (Int32.toNatClampNeg v3)) = 0 → (kT h4 v0 = 9 ∧ (kT h4 v0 = 9 ∧ (∀ h5 : Hp, h5 = wI h4 v0 1 ((kI h4 v0 1) + 1) → X G M Q 22 [(0, .ref v0), (1, .ref v1), (2, .ref v2), (3, .int (v3 + 1))] [] h5))))))))))))))))) : X G M Q 22 [(0, .ref v0), (1, .ref v1), (2, .ref v2), (3, .int v3)] [] h := by
  refine x_iload_n hM d_Wi_findAim_22 rfl 3 rfl ?_
  refine x_aload_n hM d_Wi_findAim_23 rfl 1 rfl ?_
  obtain ⟨c24, F⟩ := F
  refine x_geti hG hM ck_Wo 1 (Nat.le_of_ble_eq_true rfl) rfl rfl w_128 rfl d_Wi_findAim_24 c24 ?_
  refine x_icmp_ge (tgt := 71) hM d_Wi_findAim_27 (by decide) (fun q23 => ?_) (fun q23 => ?_)
  · replace F := F.1 q23
    exact x_return hM d_Wi_findAim_71 rfl F
  · replace F := F.2 q23
    refine x_aload_n hM d_Wi_findAim_30 rfl 0 rfl ?_
    obtain ⟨c21, F⟩ := F
    obtain ⟨c22, F⟩ := F
    refine x_getr hG hM ck_Wi 0 (Nat.le_of_ble_eq_true rfl) rfl rfl w_283 rfl d_Wi_findAim_31 c21 c22 ?_
    refine x_iload_n hM d_Wi_findAim_34 rfl 3 rfl ?_
    refine x_aload_n hM d_Wi_findAim_35 rfl 2 rfl ?_
    refine x_aload_n hM d_Wi_findAim_36 rfl 1 rfl ?_
    obtain ⟨c19, F⟩ := F
    obtain ⟨c20, F⟩ := F
    refine x_getr hG hM ck_Wo 6 (Nat.le_of_ble_eq_true rfl) rfl rfl w_151 rfl d_Wi_findAim_37 c19 c20 ?_
    refine x_iload_n hM d_Wi_findAim_40 rfl 3 rfl ?_
    obtain ⟨c17, F⟩ := F
    obtain ⟨c18, F⟩ := F
    refine x_iaload hG hM d_Wi_findAim_41 c17 c18 ?_
    obtain ⟨c16, F⟩ := F
    refine x_callV hG hM (r' := r_Cl_hold) (ci := 4) [.int (kI h (rf h v1 6) (Int32.toNatClampNeg v3))] rfl rfl (Nat.le_of_ble_eq_true rfl) yk_Cl_hold ⟨Nat.le_of_ble_eq_true rfl, Nat.le_of_ble_eq_true rfl⟩ w_649 w_554 w_555 rfl rfl (Nat.le_of_ble_eq_true rfl) d_Wi_findAim_42 c16 (sem_mono F ?_)
    intro u2 h1 F
    obtain ⟨x3, rfl, F⟩ := F
    obtain ⟨c13, F⟩ := F
    obtain ⟨c14, F⟩ := F
    obtain ⟨c15, F⟩ := F
    obtain ⟨h4, eh4⟩ : ∃ z : Hp, z = wI h1 (rf h v0 0) (Int32.toNatClampNeg v3) x3 := ⟨_, rfl⟩
    replace F := F h4 eh4
    refine x_zastore hG hM d_Wi_findAim_45 c13 c14 c15 ?_
    rw [← eh4]
    clear eh4
    refine x_aload_n hM d_Wi_findAim_46 rfl 0 rfl ?_
    obtain ⟨c11, F⟩ := F
    obtain ⟨c12, F⟩ := F
    refine x_getr hG hM ck_Wi 0 (Nat.le_of_ble_eq_true rfl) rfl rfl w_283 rfl d_Wi_findAim_47 c11 c12 ?_
    refine x_iload_n hM d_Wi_findAim_50 rfl 3 rfl ?_
    obtain ⟨c9, F⟩ := F
    obtain ⟨c10, F⟩ := F
    refine x_zaload hG hM d_Wi_findAim_51 c9 c10 ?_
    refine x_if_eq (tgt := 65) hM d_Wi_findAim_52 (by decide) (fun q8 => ?_) (fun q8 => ?_)
    · replace F := F.1 q8
      refine x_iinc (v := (v3 + 1)) (lv2 := [(3, .int (v3 + 1)), (0, .ref v0), (1, .ref v1), (2, .ref v2)]) hM d_Wi_findAim_65 (j := 3) rfl rfl (Nat.le_of_ble_eq_true rfl) rfl ?_
      refine x_goto (tgt := 22) hM d_Wi_findAim_68 (by decide) ?_
      refine x_sub [1, 2, 3, 0] rfl ?_
      exact F
    · replace F := F.2 q8
      refine x_aload_n hM d_Wi_findAim_55 rfl 0 rfl ?_
      refine x_dup hM d_Wi_findAim_56 rfl ?_
      obtain ⟨c7, F⟩ := F
      refine x_geti hG hM ck_Wi 1 (Nat.le_of_ble_eq_true rfl) rfl rfl w_285 rfl d_Wi_findAim_57 c7 ?_
      refine x_iconst (v := 1) hM d_Wi_findAim_60 (by decide) ?_
      refine x_iadd hM d_Wi_findAim_61 ?_
      obtain ⟨c6, F⟩ := F
      obtain ⟨h5, eh5⟩ : ∃ z : Hp, z = wI h4 v0 1 ((kI h4 v0 1) + 1) := ⟨_, rfl⟩
      replace F := F h5 eh5
      refine x_puti hG hM ck_Wi 1 (Nat.le_of_ble_eq_true rfl) rfl rfl w_285 rfl d_Wi_findAim_62 (Or.inl rfl) c6 ?_
      rw [← eh5]
      clear eh5
      refine x_iinc (v := (v3 + 1)) (lv2 := [(3, .int (v3 + 1)), (0, .ref v0), (1, .ref v1), (2, .ref v2)]) hM d_Wi_findAim_65 (j := 3) rfl rfl (Nat.le_of_ble_eq_true rfl) rfl ?_
      refine x_goto (tgt := 22) hM d_Wi_findAim_68 (by decide) ?_
      refine x_sub [1, 2, 3, 0] rfl ?_
      exact F
theorem d_Wi_findNumbers_0 : decode b_Wi_findNumbers 0 = .ok (.aload_n 0, 1) := by decide +kernel
theorem d_Wi_findNumbers_1 : decode b_Wi_findNumbers 1 = .ok (.aload_n 0, 1) := by decide +kernel
theorem d_Wi_findNumbers_2 : decode b_Wi_findNumbers 2 = .ok (.getfield 40, 3) := by decide +kernel
theorem d_Wi_findNumbers_5 : decode b_Wi_findNumbers 5 = .ok (.aload_n 1, 1) := by decide +kernel
theorem d_Wi_findNumbers_6 : decode b_Wi_findNumbers 6 = .ok (.getfield 43, 3) := by decide +kernel
theorem d_Wi_findNumbers_9 : decode b_Wi_findNumbers 9 = .ok (.invokestatic 61, 3) := by decide +kernel
theorem d_Wi_findNumbers_12 : decode b_Wi_findNumbers 12 = .ok (.putfield 40, 3) := by decide +kernel
theorem d_Wi_findNumbers_15 : decode b_Wi_findNumbers 15 = .ok (.iload_n 2, 1) := by decide +kernel
theorem d_Wi_findNumbers_16 : decode b_Wi_findNumbers 16 = .ok (.iconst 1, 1) := by decide +kernel
theorem d_Wi_findNumbers_17 : decode b_Wi_findNumbers 17 = .ok (.if_icmp .ne 32, 3) := by decide +kernel
theorem d_Wi_findNumbers_20 : decode b_Wi_findNumbers 20 = .ok (.aload_n 0, 1) := by decide +kernel
theorem d_Wi_findNumbers_21 : decode b_Wi_findNumbers 21 = .ok (.aload_n 0, 1) := by decide +kernel
theorem d_Wi_findNumbers_22 : decode b_Wi_findNumbers 22 = .ok (.getfield 23, 3) := by decide +kernel
theorem d_Wi_findNumbers_25 : decode b_Wi_findNumbers 25 = .ok (.aload_n 1, 1) := by decide +kernel
theorem d_Wi_findNumbers_26 : decode b_Wi_findNumbers 26 = .ok (.getfield 43, 3) := by decide +kernel
theorem d_Wi_findNumbers_29 : decode b_Wi_findNumbers 29 = .ok (.invokestatic 61, 3) := by decide +kernel
theorem d_Wi_findNumbers_32 : decode b_Wi_findNumbers 32 = .ok (.putfield 23, 3) := by decide +kernel
theorem d_Wi_findNumbers_35 : decode b_Wi_findNumbers 35 = .ok (.aload_n 0, 1) := by decide +kernel
theorem d_Wi_findNumbers_36 : decode b_Wi_findNumbers 36 = .ok (.aload_n 1, 1) := by decide +kernel
theorem d_Wi_findNumbers_37 : decode b_Wi_findNumbers 37 = .ok (.iload_n 2, 1) := by decide +kernel
theorem d_Wi_findNumbers_38 : decode b_Wi_findNumbers 38 = .ok (.aload_n 0, 1) := by decide +kernel
theorem d_Wi_findNumbers_39 : decode b_Wi_findNumbers 39 = .ok (.getfield 23, 3) := by decide +kernel
theorem d_Wi_findNumbers_42 : decode b_Wi_findNumbers 42 = .ok (.invokevirtual 65, 3) := by decide +kernel
theorem d_Wi_findNumbers_45 : decode b_Wi_findNumbers 45 = .ok (.pop, 1) := by decide +kernel
theorem d_Wi_findNumbers_46 : decode b_Wi_findNumbers 46 = .ok (.goto 57, 3) := by decide +kernel
theorem d_Wi_findNumbers_49 : decode b_Wi_findNumbers 49 = .ok (.iload_n 2, 1) := by decide +kernel
theorem d_Wi_findNumbers_50 : decode b_Wi_findNumbers 50 = .ok (.iconst 2, 1) := by decide +kernel
theorem d_Wi_findNumbers_51 : decode b_Wi_findNumbers 51 = .ok (.if_icmp .ne 32, 3) := by decide +kernel
theorem d_Wi_findNumbers_54 : decode b_Wi_findNumbers 54 = .ok (.aload_n 0, 1) := by decide +kernel
theorem d_Wi_findNumbers_55 : decode b_Wi_findNumbers 55 = .ok (.aload_n 0, 1) := by decide +kernel
theorem d_Wi_findNumbers_56 : decode b_Wi_findNumbers 56 = .ok (.getfield 27, 3) := by decide +kernel
theorem d_Wi_findNumbers_59 : decode b_Wi_findNumbers 59 = .ok (.aload_n 1, 1) := by decide +kernel
theorem d_Wi_findNumbers_60 : decode b_Wi_findNumbers 60 = .ok (.getfield 43, 3) := by decide +kernel
theorem d_Wi_findNumbers_63 : decode b_Wi_findNumbers 63 = .ok (.invokestatic 61, 3) := by decide +kernel
theorem d_Wi_findNumbers_66 : decode b_Wi_findNumbers 66 = .ok (.putfield 27, 3) := by decide +kernel
theorem d_Wi_findNumbers_69 : decode b_Wi_findNumbers 69 = .ok (.aload_n 0, 1) := by decide +kernel
theorem d_Wi_findNumbers_70 : decode b_Wi_findNumbers 70 = .ok (.aload_n 1, 1) := by decide +kernel
theorem d_Wi_findNumbers_71 : decode b_Wi_findNumbers 71 = .ok (.iload_n 2, 1) := by decide +kernel
theorem d_Wi_findNumbers_72 : decode b_Wi_findNumbers 72 = .ok (.aload_n 0, 1) := by decide +kernel
theorem d_Wi_findNumbers_73 : decode b_Wi_findNumbers 73 = .ok (.getfield 27, 3) := by decide +kernel
theorem d_Wi_findNumbers_76 : decode b_Wi_findNumbers 76 = .ok (.invokevirtual 65, 3) := by decide +kernel
theorem d_Wi_findNumbers_79 : decode b_Wi_findNumbers 79 = .ok (.pop, 1) := by decide +kernel
theorem d_Wi_findNumbers_80 : decode b_Wi_findNumbers 80 = .ok (.goto 23, 3) := by decide +kernel
theorem d_Wi_findNumbers_83 : decode b_Wi_findNumbers 83 = .ok (.aload_n 0, 1) := by decide +kernel
theorem d_Wi_findNumbers_84 : decode b_Wi_findNumbers 84 = .ok (.aload_n 0, 1) := by decide +kernel
theorem d_Wi_findNumbers_85 : decode b_Wi_findNumbers 85 = .ok (.getfield 30, 3) := by decide +kernel
theorem d_Wi_findNumbers_88 : decode b_Wi_findNumbers 88 = .ok (.aload_n 1, 1) := by decide +kernel
theorem d_Wi_findNumbers_89 : decode b_Wi_findNumbers 89 = .ok (.getfield 43, 3) := by decide +kernel
theorem d_Wi_findNumbers_92 : decode b_Wi_findNumbers 92 = .ok (.invokestatic 61, 3) := by decide +kernel
theorem d_Wi_findNumbers_95 : decode b_Wi_findNumbers 95 = .ok (.putfield 30, 3) := by decide +kernel
theorem d_Wi_findNumbers_98 : decode b_Wi_findNumbers 98 = .ok (.aload_n 0, 1) := by decide +kernel
theorem d_Wi_findNumbers_99 : decode b_Wi_findNumbers 99 = .ok (.aload_n 1, 1) := by decide +kernel
theorem d_Wi_findNumbers_100 : decode b_Wi_findNumbers 100 = .ok (.invokevirtual 69, 3) := by decide +kernel
theorem d_Wi_findNumbers_103 : decode b_Wi_findNumbers 103 = .ok (.return_, 1) := by decide +kernel
set_option maxRecDepth 100000 in
set_option maxHeartbeats 4000000 in
theorem S_Wi_findNumbers_0 {G : Gc} {M : Mc} {Q : State → Prop} {K : Option Value → Hp → Prop} (hG : gok G) (hM : mok G M r_Wi_findNumbers Q K) (v0 : Nat) (v1 : Nat) (v2 : Int32) (h : Hp) (F : kT h v0 = 9 ∧ kR h v0 8 = some (rf h v0 8) ∧ (kT h v1 = 2 ∧ (sem G r_WP_rowFor [.ref (rf h v0 8), .int (kI h v1 1)] h (fun u2 h1 => ∃ x3 : Nat, u2 = some (.ref x3) ∧ (kT h1 v0 = 9 ∧ (∀ h4 : Hp, h4 = wR h1 v0 8 (some x3) → ((v2 = 1 → (kT h4 v0 = 9 ∧ kR h4 v0 3 = some (rf h4 v0 3) ∧ (kT h4 v1 = 2 ∧ (sem G r_WP_rowFor [.ref (rf h4 v0 3), .int (kI h4 v1 1)] h4 (fun u32 h31 => ∃ x33 : Nat, u32 = some (.ref x33) ∧ (kT h31 v0 = 9 ∧ (∀ h34 : Hp, h34 = wR h31 v0 3 (some x33) → (kT h34 v0 = 9 ∧ kR h34 v0 3 = some (rf h34 v0 3) ∧ (kT h34 v0 = 9 ∧ sem G r_Wi_spreadBack [.ref v0, .ref v1, .int v2, .ref (rf h34 v0 3)] h34 (fun u36 h35 => ∃ x37 : Int32, u36 = some (.int x37) ∧ K none h35)))))))))) ∧ (¬ v2 = 1 → ((v2 = 2 → (kT h4 v0 = 9 ∧ kR h4 v0 4 = some (rf h4 v0 4) ∧ (kT h4 v1 = 2 ∧ (sem G r_WP_rowFor [.ref (rf h4 v0 4), .int (kI h4 v1 1)] h4 (fun u17 h16 => ∃ x18 : Nat, u17 = some (.ref x18) ∧ (kT h16 v0 = 9 ∧ (∀ h19 : Hp, h19 = wR h16 v0 4 (some x18) → (kT h19 v0 = 9 ∧ kR h19 v0 4 = some (rf h19 v0 4) ∧ (kT h19 v0 = 9 ∧ sem G r_Wi_spreadBack [.ref v0, .ref v1, .int v2, .ref (rf h19 v0 4)] h19 (fun u21 h20 => ∃ x22 : Int32, u21 = some (.int x22) ∧ K none h20)))))))))) ∧ (¬ v2 = 2 → (kT h4 v0 = 9 ∧ kR h4 v0 5 = some (rf h4 v0 5) ∧ (kT h4 v1 = 2 ∧ (sem G r_WP_rowFor [.ref (rf h4 v0 5), .int (kI h4 v1 1)] h4 (fun u6 h5 => ∃ x7 : Nat, u6 = some (.ref x7) ∧ (kT h5 v0 = 9 ∧ (∀ h8 : Hp, h8 = wR h5 v0 5 (some x7) → (kT h8 v0 = 9 ∧ sem G r_Wi_findLevels [.ref v0, .ref v1] h8 (fun u10 h9 => u10 = none ∧ K none h9)))))))))))))))))) : X G M Q 0 [(0, .ref v0), (1, .ref v1), (2, .int v2)] [] h := by
  refine x_aload_n hM d_Wi_findNumbers_0 rfl 0 rfl ?_
  refine x_aload_n hM d_Wi_findNumbers_1 rfl 0 rfl ?_
  obtain ⟨c48, F⟩ := F
  obtain ⟨c49, F⟩ := F
  refine x_getr hG hM ck_Wi 8 (Nat.le_of_ble_eq_true rfl) rfl rfl w_295 rfl d_Wi_findNumbers_2 c48 c49 ?_
  refine x_aload_n hM d_Wi_findNumbers_5 rfl 1 rfl ?_
  obtain ⟨c47, F⟩ := F
  refine x_geti hG hM ck_Wo 1 (Nat.le_of_ble_eq_true rfl) rfl rfl w_128 rfl d_Wi_findNumbers_6 c47 ?_
  refine x_callSN hG hM (r' := r_WP_rowFor) [.ref (rf h v0 8), .int (kI h v1 1)] rfl yk_WP_rowFor ⟨Nat.le_of_ble_eq_true rfl, Nat.le_of_ble_eq_true rfl⟩ w_658 w_586 rfl rfl (Nat.le_of_ble_eq_true rfl) d_Wi_findNumbers_9 (sem_mono F ?_)
  intro u2 h1 F
  obtain ⟨x3, rfl, F⟩ := F
  obtain ⟨c46, F⟩ := F
  obtain ⟨h4, eh4⟩ : ∃ z : Hp, z = wR h1 v0 8 (some x3) := ⟨_, rfl⟩
  replace F := F h4 eh4
  refine x_putr hG hM ck_Wi 8 (Nat.le_of_ble_eq_true rfl) (Or.inr ⟨_, rfl⟩) rfl w_295 rfl d_Wi_findNumbers_12 (Or.inl rfl) c46 ?_
  rw [← eh4]
  clear eh4
  refine x_iload_n hM d_Wi_findNumbers_15 rfl 2 rfl ?_
  refine x_iconst (v := 1) hM d_Wi_findNumbers_16 (by decide) ?_
  refine x_icmp_ne (tgt := 49) hM d_Wi_findNumbers_17 (by decide) (fun q45 => ?_) (fun q45 => ?_)
  · replace F := F.2 q45
    refine x_iload_n hM d_Wi_findNumbers_49 rfl 2 rfl ?_
    refine x_iconst (v := 2) hM d_Wi_findNumbers_50 (by decide) ?_
    refine x_icmp_ne (tgt := 83) hM d_Wi_findNumbers_51 (by decide) (fun q30 => ?_) (fun q30 => ?_)
    · replace F := F.2 q30
      refine x_aload_n hM d_Wi_findNumbers_83 rfl 0 rfl ?_
      refine x_aload_n hM d_Wi_findNumbers_84 rfl 0 rfl ?_
      obtain ⟨c14, F⟩ := F
      obtain ⟨c15, F⟩ := F
      refine x_getr hG hM ck_Wi 5 (Nat.le_of_ble_eq_true rfl) rfl rfl w_291 rfl d_Wi_findNumbers_85 c14 c15 ?_
      refine x_aload_n hM d_Wi_findNumbers_88 rfl 1 rfl ?_
      obtain ⟨c13, F⟩ := F
      refine x_geti hG hM ck_Wo 1 (Nat.le_of_ble_eq_true rfl) rfl rfl w_128 rfl d_Wi_findNumbers_89 c13 ?_
      refine x_callSN hG hM (r' := r_WP_rowFor) [.ref (rf h4 v0 5), .int (kI h4 v1 1)] rfl yk_WP_rowFor ⟨Nat.le_of_ble_eq_true rfl, Nat.le_of_ble_eq_true rfl⟩ w_658 w_586 rfl rfl (Nat.le_of_ble_eq_true rfl) d_Wi_findNumbers_92 (sem_mono F ?_)
      intro u6 h5 F
      obtain ⟨x7, rfl, F⟩ := F
      obtain ⟨c12, F⟩ := F
      obtain ⟨h8, eh8⟩ : ∃ z : Hp, z = wR h5 v0 5 (some x7) := ⟨_, rfl⟩
      replace F := F h8 eh8
      refine x_putr hG hM ck_Wi 5 (Nat.le_of_ble_eq_true rfl) (Or.inr ⟨_, rfl⟩) rfl w_291 rfl d_Wi_findNumbers_95 (Or.inl rfl) c12 ?_
      rw [← eh8]
      clear eh8
      refine x_aload_n hM d_Wi_findNumbers_98 rfl 0 rfl ?_
      refine x_aload_n hM d_Wi_findNumbers_99 rfl 1 rfl ?_
      obtain ⟨c11, F⟩ := F
      refine x_callV hG hM (r' := r_Wi_findLevels) (ci := 8) [.ref v1] rfl rfl (Nat.le_of_ble_eq_true rfl) yk_Wi_findLevels ⟨Nat.le_of_ble_eq_true rfl, Nat.le_of_ble_eq_true rfl⟩ w_678 w_680 ws_Wi_findLevels rfl rfl (Nat.le_of_ble_eq_true rfl) d_Wi_findNumbers_100 c11 (sem_mono F ?_)
      intro u10 h9 F
      obtain ⟨rfl, F⟩ := F
      exact x_return hM d_Wi_findNumbers_103 rfl F
    · replace F := F.1 q30
      refine x_aload_n hM d_Wi_findNumbers_54 rfl 0 rfl ?_
      refine x_aload_n hM d_Wi_findNumbers_55 rfl 0 rfl ?_
      obtain ⟨c28, F⟩ := F
      obtain ⟨c29, F⟩ := F
      refine x_getr hG hM ck_Wi 4 (Nat.le_of_ble_eq_true rfl) rfl rfl w_290 rfl d_Wi_findNumbers_56 c28 c29 ?_
      refine x_aload_n hM d_Wi_findNumbers_59 rfl 1 rfl ?_
      obtain ⟨c27, F⟩ := F
      refine x_geti hG hM ck_Wo 1 (Nat.le_of_ble_eq_true rfl) rfl rfl w_128 rfl d_Wi_findNumbers_60 c27 ?_
      refine x_callSN hG hM (r' := r_WP_rowFor) [.ref (rf h4 v0 4), .int (kI h4 v1 1)] rfl yk_WP_rowFor ⟨Nat.le_of_ble_eq_true rfl, Nat.le_of_ble_eq_true rfl⟩ w_658 w_586 rfl rfl (Nat.le_of_ble_eq_true rfl) d_Wi_findNumbers_63 (sem_mono F ?_)
      intro u17 h16 F
      obtain ⟨x18, rfl, F⟩ := F
      obtain ⟨c26, F⟩ := F
      obtain ⟨h19, eh19⟩ : ∃ z : Hp, z = wR h16 v0 4 (some x18) := ⟨_, rfl⟩
      replace F := F h19 eh19
      refine x_putr hG hM ck_Wi 4 (Nat.le_of_ble_eq_true rfl) (Or.inr ⟨_, rfl⟩) rfl w_290 rfl d_Wi_findNumbers_66 (Or.inl rfl) c26 ?_
      rw [← eh19]
      clear eh19
      refine x_aload_n hM d_Wi_findNumbers_69 rfl 0 rfl ?_
      refine x_aload_n hM d_Wi_findNumbers_70 rfl 1 rfl ?_
      refine x_iload_n hM d_Wi_findNumbers_71 rfl 2 rfl ?_
      refine x_aload_n hM d_Wi_findNumbers_72 rfl 0 rfl ?_
      obtain ⟨c24, F⟩ := F
      obtain ⟨c25, F⟩ := F
      refine x_getr hG hM ck_Wi 4 (Nat.le_of_ble_eq_true rfl) rfl rfl w_290 rfl d_Wi_findNumbers_73 c24 c25 ?_
      obtain ⟨c23, F⟩ := F
      refine x_callV hG hM (r' := r_Wi_spreadBack) (ci := 8) [.ref v1, .int v2, .ref (rf h19 v0 4)] rfl rfl (Nat.le_of_ble_eq_true rfl) yk_Wi_spreadBack ⟨Nat.le_of_ble_eq_true rfl, Nat.le_of_ble_eq_true rfl⟩ w_659 w_661 ws_Wi_spreadBack rfl rfl (Nat.le_of_ble_eq_true rfl) d_Wi_findNumbers_76 c23 (sem_mono F ?_)
      intro u21 h20 F
      obtain ⟨x22, rfl, F⟩ := F
      refine x_pop hM d_Wi_findNumbers_79 rfl ?_
      refine x_goto (tgt := 103) hM d_Wi_findNumbers_80 (by decide) ?_
      exact x_return hM d_Wi_findNumbers_103 rfl F
  · replace F := F.1 q45
    refine x_aload_n hM d_Wi_findNumbers_20 rfl 0 rfl ?_
    refine x_aload_n hM d_Wi_findNumbers_21 rfl 0 rfl ?_
    obtain ⟨c43, F⟩ := F
    obtain ⟨c44, F⟩ := F
    refine x_getr hG hM ck_Wi 3 (Nat.le_of_ble_eq_true rfl) rfl rfl w_289 rfl d_Wi_findNumbers_22 c43 c44 ?_
    refine x_aload_n hM d_Wi_findNumbers_25 rfl 1 rfl ?_
    obtain ⟨c42, F⟩ := F
    refine x_geti hG hM ck_Wo 1 (Nat.le_of_ble_eq_true rfl) rfl rfl w_128 rfl d_Wi_findNumbers_26 c42 ?_
    refine x_callSN hG hM (r' := r_WP_rowFor) [.ref (rf h4 v0 3), .int (kI h4 v1 1)] rfl yk_WP_rowFor ⟨Nat.le_of_ble_eq_true rfl, Nat.le_of_ble_eq_true rfl⟩ w_658 w_586 rfl rfl (Nat.le_of_ble_eq_true rfl) d_Wi_findNumbers_29 (sem_mono F ?_)
    intro u32 h31 F
    obtain ⟨x33, rfl, F⟩ := F
    obtain ⟨c41, F⟩ := F
    obtain ⟨h34, eh34⟩ : ∃ z : Hp, z = wR h31 v0 3 (some x33) := ⟨_, rfl⟩
    replace F := F h34 eh34
    refine x_putr hG hM ck_Wi 3 (Nat.le_of_ble_eq_true rfl) (Or.inr ⟨_, rfl⟩) rfl w_289 rfl d_Wi_findNumbers_32 (Or.inl rfl) c41 ?_
    rw [← eh34]
    clear eh34
    refine x_aload_n hM d_Wi_findNumbers_35 rfl 0 rfl ?_
    refine x_aload_n hM d_Wi_findNumbers_36 rfl 1 rfl ?_
    refine x_iload_n hM d_Wi_findNumbers_37 rfl 2 rfl ?_
    refine x_aload_n hM d_Wi_findNumbers_38 rfl 0 rfl ?_
    obtain ⟨c39, F⟩ := F
    obtain ⟨c40, F⟩ := F
    refine x_getr hG hM ck_Wi 3 (Nat.le_of_ble_eq_true rfl) rfl rfl w_289 rfl d_Wi_findNumbers_39 c39 c40 ?_
    obtain ⟨c38, F⟩ := F
    refine x_callV hG hM (r' := r_Wi_spreadBack) (ci := 8) [.ref v1, .int v2, .ref (rf h34 v0 3)] rfl rfl (Nat.le_of_ble_eq_true rfl) yk_Wi_spreadBack ⟨Nat.le_of_ble_eq_true rfl, Nat.le_of_ble_eq_true rfl⟩ w_659 w_661 ws_Wi_spreadBack rfl rfl (Nat.le_of_ble_eq_true rfl) d_Wi_findNumbers_42 c38 (sem_mono F ?_)
    intro u36 h35 F
    obtain ⟨x37, rfl, F⟩ := F
    refine x_pop hM d_Wi_findNumbers_45 rfl ?_
    refine x_goto (tgt := 103) hM d_Wi_findNumbers_46 (by decide) ?_
    exact x_return hM d_Wi_findNumbers_103 rfl F
theorem d_Wi_spreadBack_0 : decode b_Wi_spreadBack 0 = .ok (.iconst 0, 1) := by decide +kernel
theorem d_Wi_spreadBack_1 : decode b_Wi_spreadBack 1 = .ok (.istore 4, 2) := by decide +kernel
theorem d_Wi_spreadBack_3 : decode b_Wi_spreadBack 3 = .ok (.iconst 0, 1) := by decide +kernel
theorem d_Wi_spreadBack_4 : decode b_Wi_spreadBack 4 = .ok (.istore 5, 2) := by decide +kernel
theorem d_Wi_spreadBack_6 : decode b_Wi_spreadBack 6 = .ok (.iload 5, 2) := by decide +kernel
theorem d_Wi_spreadBack_8 : decode b_Wi_spreadBack 8 = .ok (.aload_n 1, 1) := by decide +kernel
theorem d_Wi_spreadBack_9 : decode b_Wi_spreadBack 9 = .ok (.getfield 43, 3) := by decide +kernel
theorem d_Wi_spreadBack_12 : decode b_Wi_spreadBack 12 = .ok (.if_icmp .ge 50, 3) := by decide +kernel
theorem d_Wi_spreadBack_15 : decode b_Wi_spreadBack 15 = .ok (.aload_n 3, 1) := by decide +kernel
theorem d_Wi_spreadBack_16 : decode b_Wi_spreadBack 16 = .ok (.iload 5, 2) := by decide +kernel
theorem d_Wi_spreadBack_18 : decode b_Wi_spreadBack 18 = .ok (.aload_n 0, 1) := by decide +kernel
theorem d_Wi_spreadBack_19 : decode b_Wi_spreadBack 19 = .ok (.getfield 9, 3) := by decide +kernel
theorem d_Wi_spreadBack_22 : decode b_Wi_spreadBack 22 = .ok (.iload 5, 2) := by decide +kernel
theorem d_Wi_spreadBack_24 : decode b_Wi_spreadBack 24 = .ok (.baload, 1) := by decide +kernel
theorem d_Wi_spreadBack_25 : decode b_Wi_spreadBack 25 = .ok (.ifCond .eq 7, 3) := by decide +kernel
theorem d_Wi_spreadBack_28 : decode b_Wi_spreadBack 28 = .ok (.iconst 0, 1) := by decide +kernel
theorem d_Wi_spreadBack_29 : decode b_Wi_spreadBack 29 = .ok (.goto 4, 3) := by decide +kernel
theorem d_Wi_spreadBack_32 : decode b_Wi_spreadBack 32 = .ok (.iconst (-1), 1) := by decide +kernel
theorem d_Wi_spreadBack_33 : decode b_Wi_spreadBack 33 = .ok (.iastore, 1) := by decide +kernel
theorem d_Wi_spreadBack_34 : decode b_Wi_spreadBack 34 = .ok (.aload_n 0, 1) := by decide +kernel
theorem d_Wi_spreadBack_35 : decode b_Wi_spreadBack 35 = .ok (.getfield 9, 3) := by decide +kernel
theorem d_Wi_spreadBack_38 : decode b_Wi_spreadBack 38 = .ok (.iload 5, 2) := by decide +kernel
theorem d_Wi_spreadBack_40 : decode b_Wi_spreadBack 40 = .ok (.baload, 1) := by decide +kernel
theorem d_Wi_spreadBack_41 : decode b_Wi_spreadBack 41 = .ok (.ifCond .eq 15, 3) := by decide +kernel
theorem d_Wi_spreadBack_44 : decode b_Wi_spreadBack 44 = .ok (.aload_n 0, 1) := by decide +kernel
theorem d_Wi_spreadBack_45 : decode b_Wi_spreadBack 45 = .ok (.getfield 40, 3) := by decide +kernel
theorem d_Wi_spreadBack_48 : decode b_Wi_spreadBack 48 = .ok (.iload 4, 2) := by decide +kernel
theorem d_Wi_spreadBack_50 : decode b_Wi_spreadBack 50 = .ok (.iload 5, 2) := by decide +kernel
theorem d_Wi_spreadBack_52 : decode b_Wi_spreadBack 52 = .ok (.iastore, 1) := by decide +kernel
theorem d_Wi_spreadBack_53 : decode b_Wi_spreadBack 53 = .ok (.iinc 4 1, 3) := by decide +kernel
theorem d_Wi_spreadBack_56 : decode b_Wi_spreadBack 56 = .ok (.iinc 5 1, 3) := by decide +kernel
theorem d_Wi_spreadBack_59 : decode b_Wi_spreadBack 59 = .ok (.goto (-53), 3) := by decide +kernel
theorem d_Wi_spreadBack_62 : decode b_Wi_spreadBack 62 = .ok (.iconst 0, 1) := by decide +kernel
theorem d_Wi_spreadBack_63 : decode b_Wi_spreadBack 63 = .ok (.istore 5, 2) := by decide +kernel
theorem d_Wi_spreadBack_65 : decode b_Wi_spreadBack 65 = .ok (.iload 5, 2) := by decide +kernel
theorem d_Wi_spreadBack_67 : decode b_Wi_spreadBack 67 = .ok (.iload 4, 2) := by decide +kernel
theorem d_Wi_spreadBack_69 : decode b_Wi_spreadBack 69 = .ok (.if_icmp .ge 118, 3) := by decide +kernel
theorem d_Wi_spreadBack_72 : decode b_Wi_spreadBack 72 = .ok (.iload 5, 2) := by decide +kernel
theorem d_Wi_spreadBack_74 : decode b_Wi_spreadBack 74 = .ok (.aload_n 1, 1) := by decide +kernel
theorem d_Wi_spreadBack_75 : decode b_Wi_spreadBack 75 = .ok (.getfield 43, 3) := by decide +kernel
theorem d_Wi_spreadBack_78 : decode b_Wi_spreadBack 78 = .ok (.if_icmp .ge 109, 3) := by decide +kernel
theorem d_Wi_spreadBack_81 : decode b_Wi_spreadBack 81 = .ok (.aload_n 0, 1) := by decide +kernel
theorem d_Wi_spreadBack_82 : decode b_Wi_spreadBack 82 = .ok (.getfield 40, 3) := by decide +kernel
theorem d_Wi_spreadBack_85 : decode b_Wi_spreadBack 85 = .ok (.iload 5, 2) := by decide +kernel
theorem d_Wi_spreadBack_87 : decode b_Wi_spreadBack 87 = .ok (.iaload, 1) := by decide +kernel
theorem d_Wi_spreadBack_88 : decode b_Wi_spreadBack 88 = .ok (.istore 6, 2) := by decide +kernel
theorem d_Wi_spreadBack_90 : decode b_Wi_spreadBack 90 = .ok (.aload_n 1, 1) := by decide +kernel
theorem d_Wi_spreadBack_91 : decode b_Wi_spreadBack 91 = .ok (.getfield 73, 3) := by decide +kernel
theorem d_Wi_spreadBack_94 : decode b_Wi_spreadBack 94 = .ok (.iload 6, 2) := by decide +kernel
theorem d_Wi_spreadBack_96 : decode b_Wi_spreadBack 96 = .ok (.iaload, 1) := by decide +kernel
theorem d_Wi_spreadBack_97 : decode b_Wi_spreadBack 97 = .ok (.istore 7, 2) := by decide +kernel
theorem d_Wi_spreadBack_99 : decode b_Wi_spreadBack 99 = .ok (.iconst 0, 1) := by decide +kernel
theorem d_Wi_spreadBack_100 : decode b_Wi_spreadBack 100 = .ok (.istore 8, 2) := by decide +kernel
theorem d_Wi_spreadBack_102 : decode b_Wi_spreadBack 102 = .ok (.iload 8, 2) := by decide +kernel
theorem d_Wi_spreadBack_104 : decode b_Wi_spreadBack 104 = .ok (.ldc 76, 2) := by decide +kernel
theorem d_Wi_spreadBack_106 : decode b_Wi_spreadBack 106 = .ok (.if_icmp .ge 75, 3) := by decide +kernel
theorem d_Wi_spreadBack_109 : decode b_Wi_spreadBack 109 = .ok (.iload 7, 2) := by decide +kernel
theorem d_Wi_spreadBack_111 : decode b_Wi_spreadBack 111 = .ok (.iconst (-1), 1) := by decide +kernel
theorem d_Wi_spreadBack_112 : decode b_Wi_spreadBack 112 = .ok (.if_icmp .eq 69, 3) := by decide +kernel
theorem d_Wi_spreadBack_115 : decode b_Wi_spreadBack 115 = .ok (.iload 7, 2) := by decide +kernel
theorem d_Wi_spreadBack_117 : decode b_Wi_spreadBack 117 = .ok (.invokestatic 77, 3) := by decide +kernel
theorem d_Wi_spreadBack_120 : decode b_Wi_spreadBack 120 = .ok (.istore 9, 2) := by decide +kernel
theorem d_Wi_spreadBack_122 : decode b_Wi_spreadBack 122 = .ok (.aload_n 3, 1) := by decide +kernel
theorem d_Wi_spreadBack_123 : decode b_Wi_spreadBack 123 = .ok (.iload 9, 2) := by decide +kernel
theorem d_Wi_spreadBack_125 : decode b_Wi_spreadBack 125 = .ok (.iaload, 1) := by decide +kernel
theorem d_Wi_spreadBack_126 : decode b_Wi_spreadBack 126 = .ok (.iconst (-1), 1) := by decide +kernel
theorem d_Wi_spreadBack_127 : decode b_Wi_spreadBack 127 = .ok (.if_icmp .ne 40, 3) := by decide +kernel
theorem d_Wi_spreadBack_130 : decode b_Wi_spreadBack 130 = .ok (.aload_n 0, 1) := by decide +kernel
theorem d_Wi_spreadBack_131 : decode b_Wi_spreadBack 131 = .ok (.aload_n 1, 1) := by decide +kernel
theorem d_Wi_spreadBack_132 : decode b_Wi_spreadBack 132 = .ok (.iload 7, 2) := by decide +kernel
theorem d_Wi_spreadBack_134 : decode b_Wi_spreadBack 134 = .ok (.iload_n 2, 1) := by decide +kernel
theorem d_Wi_spreadBack_135 : decode b_Wi_spreadBack 135 = .ok (.aload_n 3, 1) := by decide +kernel
theorem d_Wi_spreadBack_136 : decode b_Wi_spreadBack 136 = .ok (.iload 6, 2) := by decide +kernel
theorem d_Wi_spreadBack_138 : decode b_Wi_spreadBack 138 = .ok (.iaload, 1) := by decide +kernel
theorem d_Wi_spreadBack_139 : decode b_Wi_spreadBack 139 = .ok (.invokevirtual 81, 3) := by decide +kernel
theorem d_Wi_spreadBack_142 : decode b_Wi_spreadBack 142 = .ok (.ifCond .eq 25, 3) := by decide +kernel
theorem d_Wi_spreadBack_145 : decode b_Wi_spreadBack 145 = .ok (.aload_n 3, 1) := by decide +kernel
theorem d_Wi_spreadBack_146 : decode b_Wi_spreadBack 146 = .ok (.iload 9, 2) := by decide +kernel
theorem d_Wi_spreadBack_148 : decode b_Wi_spreadBack 148 = .ok (.aload_n 3, 1) := by decide +kernel
theorem d_Wi_spreadBack_149 : decode b_Wi_spreadBack 149 = .ok (.iload 6, 2) := by decide +kernel
theorem d_Wi_spreadBack_151 : decode b_Wi_spreadBack 151 = .ok (.iaload, 1) := by decide +kernel
theorem d_Wi_spreadBack_152 : decode b_Wi_spreadBack 152 = .ok (.iconst 1, 1) := by decide +kernel
theorem d_Wi_spreadBack_153 : decode b_Wi_spreadBack 153 = .ok (.iadd, 1) := by decide +kernel
theorem d_Wi_spreadBack_154 : decode b_Wi_spreadBack 154 = .ok (.iastore, 1) := by decide +kernel
theorem d_Wi_spreadBack_155 : decode b_Wi_spreadBack 155 = .ok (.aload_n 0, 1) := by decide +kernel
theorem d_Wi_spreadBack_156 : decode b_Wi_spreadBack 156 = .ok (.getfield 40, 3) := by decide +kernel
theorem d_Wi_spreadBack_159 : decode b_Wi_spreadBack 159 = .ok (.iload 4, 2) := by decide +kernel
theorem d_Wi_spreadBack_161 : decode b_Wi_spreadBack 161 = .ok (.iload 9, 2) := by decide +kernel
theorem d_Wi_spreadBack_163 : decode b_Wi_spreadBack 163 = .ok (.iastore, 1) := by decide +kernel
theorem d_Wi_spreadBack_164 : decode b_Wi_spreadBack 164 = .ok (.iinc 4 1, 3) := by decide +kernel
theorem d_Wi_spreadBack_167 : decode b_Wi_spreadBack 167 = .ok (.aload_n 1, 1) := by decide +kernel
theorem d_Wi_spreadBack_168 : decode b_Wi_spreadBack 168 = .ok (.iload 7, 2) := by decide +kernel
theorem d_Wi_spreadBack_170 : decode b_Wi_spreadBack 170 = .ok (.invokevirtual 85, 3) := by decide +kernel
theorem d_Wi_spreadBack_173 : decode b_Wi_spreadBack 173 = .ok (.istore 7, 2) := by decide +kernel
theorem d_Wi_spreadBack_175 : decode b_Wi_spreadBack 175 = .ok (.iinc 8 1, 3) := by decide +kernel
theorem d_Wi_spreadBack_178 : decode b_Wi_spreadBack 178 = .ok (.goto (-76), 3) := by decide +kernel
theorem d_Wi_spreadBack_181 : decode b_Wi_spreadBack 181 = .ok (.iinc 5 1, 3) := by decide +kernel
theorem d_Wi_spreadBack_184 : decode b_Wi_spreadBack 184 = .ok (.goto (-119), 3) := by decide +kernel
theorem d_Wi_spreadBack_187 : decode b_Wi_spreadBack 187 = .ok (.iload 4, 2) := by decide +kernel
theorem d_Wi_spreadBack_189 : decode b_Wi_spreadBack 189 = .ok (.ireturn, 1) := by decide +kernel
set_option maxRecDepth 100000 in
set_option maxHeartbeats 4000000 in
theorem S_Wi_spreadBack_0 {G : Gc} {M : Mc} {Q : State → Prop} {K : Option Value → Hp → Prop} (hG : gok G) (hM : mok G M r_Wi_spreadBack Q K) (v0 : Nat) (v1 : Nat) (v2 : Int32) (v3 : Nat) (h : Hp) (F : X G M Q 6 [(0, .ref v0), (1, .ref v1), (2, .int v2), (3, .ref v3), (4, .int 0), (5, .int 0)] [] h) : X G M Q 0 [(0, .ref v0), (1, .ref v1), (2, .int v2), (3, .ref v3)] [] h := by
  refine x_iconst (v := 0) hM d_Wi_spreadBack_0 (by decide) ?_
  refine x_istore (lv2 := [(4, .int 0), (0, .ref v0), (1, .ref v1), (2, .int v2), (3, .ref v3)]) hM d_Wi_spreadBack_1 (Nat.le_of_ble_eq_true rfl) rfl ?_
  refine x_iconst (v := 0) hM d_Wi_spreadBack_3 (by decide) ?_
  refine x_istore (lv2 := [(5, .int 0), (4, .int 0), (0, .ref v0), (1, .ref v1), (2, .int v2), (3, .ref v3)]) hM d_Wi_spreadBack_4 (Nat.le_of_ble_eq_true rfl) rfl ?_
  refine x_sub [2, 3, 4, 5, 1, 0] rfl ?_
  exact F
set_option maxRecDepth 100000 in
set_option maxHeartbeats 4000000 in
theorem S_Wi_spreadBack_6 {G : Gc} {M : Mc} {Q : State → Prop} {K : Option Value → Hp → Prop} (hG : gok G) (hM : mok G M r_Wi_spreadBack Q K) (v0 : Nat) (v1 : Nat) (v2 : Int32) (v3 : Nat) (v4 : Int32) (v5 : Int32) (h : Hp) (F : kT h v1 = 2 ∧ (((kI h v1 1) ≤ v5 → X G M Q 65 [(0, .ref v0), (1, .ref v1), (2, .int v2), (3, .ref v3), (4, .int v4), (5, .int 0)] [] h) ∧ (¬ (kI h v1 1) ≤ v5 → (kT h v0 = 9 ∧ kR h v0 0 = some (rf h v0 0) ∧ (kT h (rf h v0 0) = 51 ∧ vp_in v5 (kN h (rf h v0 0)) ∧ (∀ z1 : Int32, z1 = (if (kI h (rf h v0 0) (Int32.toNatClampNeg v5)) = 0 then (-1) else 0) → (kT h v3 = 50 ∧ vp_in v5 (kN h v3) ∧ (∀ h2 : Hp, h2 = wI h v3 (Int32.toNatClampNeg v5) z1 → (kT h2 v0 = 9 ∧ kR h2 v0 0 = some (rf h2 v0 0) ∧ (kT h2 (rf h2 v0 0) = 51 ∧ vp_in v5 (kN h2 (rf h2 v0 0)) ∧ (((kI h2 (rf h2 v0 0) (Int32.toNatClampNeg v5)) = 0 → X G M Q 6 [(0, .ref v0), (1, .ref v1), (2, .int v2), (3, .ref v3), (4, .int v4), (5, .int (v5 + 1))] [] h2) ∧ (¬ (kI h2 (rf h2 v0 0) (Int32.toNatClampNeg v5)) = 0 → (kT h2 v0 = 9 ∧ kR h2 v0 8 = some (rf h2 v0 8) ∧ (kT h2 (rf h2 v0 8) = 50 ∧ vp_in v4 (kN h2 (rf h2 v0 8)) ∧ (∀ h3 : Hp, h3 = wI h2 (rf h2 v0 8) (Int32.toNatClampNeg v4) v5 → X G M Q 6 [(0, .ref v0), (1, .ref v1), (2, .int v2), (3, .ref v3), (4, .int (v4 + 1)), (5, .int (v5 + 1))] [] h3))))))))))))))) : X G M Q 6 [(0, .ref v0), (1, .ref v1), (2, .int v2), (3, .ref v3), (4, .int v4), (5, .int v5)] [] h := by
  refine x_iload hM d_Wi_spreadBack_6 5 rfl ?_
  refine x_aload_n hM d_Wi_spreadBack_8 rfl 1 rfl ?_
  obtain ⟨c21, F⟩ := F
  refine x_geti hG hM ck_Wo 1 (Nat.le_of_ble_eq_true rfl) rfl rfl w_128 rfl d_Wi_spreadBack_9 c21 ?_
  refine x_icmp_ge (tgt := 62) hM d_Wi_spreadBack_12 (by decide) (fun q20 => ?_) (fun q20 => ?_)
  · replace F := F.1 q20
    refine x_iconst (v := 0) hM d_Wi_spreadBack_62 (by decide) ?_
    refine x_istore (lv2 := [(5, .int 0), (0, .ref v0), (1, .ref v1), (2, .int v2), (3, .ref v3), (4, .int v4)]) hM d_Wi_spreadBack_63 (Nat.le_of_ble_eq_true rfl) rfl ?_
    refine x_sub [1, 2, 3, 4, 5, 0] rfl ?_
    exact F
  · replace F := F.2 q20
    refine x_aload_n hM d_Wi_spreadBack_15 rfl 3 rfl ?_
    refine x_iload hM d_Wi_spreadBack_16 5 rfl ?_
    refine x_aload_n hM d_Wi_spreadBack_18 rfl 0 rfl ?_
    obtain ⟨c18, F⟩ := F
    obtain ⟨c19, F⟩ := F
    refine x_getr hG hM ck_Wi 0 (Nat.le_of_ble_eq_true rfl) rfl rfl w_283 rfl d_Wi_spreadBack_19 c18 c19 ?_
    refine x_iload hM d_Wi_spreadBack_22 5 rfl ?_
    obtain ⟨c16, F⟩ := F
    obtain ⟨c17, F⟩ := F
    refine x_zaload hG hM d_Wi_spreadBack_24 c16 c17 ?_
    have JJ : ∀ (z1 : Int32) (ez1 : z1 = (if (kI h (rf h v0 0) (Int32.toNatClampNeg v5)) = 0 then (-1) else 0)), X G M Q 33 [(0, .ref v0), (1, .ref v1), (2, .int v2), (3, .ref v3), (4, .int v4), (5, .int v5)] [.int z1, .int v5, .ref v3] h := by
      intro z1 ez1
      replace F := F _ ez1
      obtain ⟨c13, F⟩ := F
      obtain ⟨c14, F⟩ := F
      obtain ⟨h2, eh2⟩ : ∃ z : Hp, z = wI h v3 (Int32.toNatClampNeg v5) z1 := ⟨_, rfl⟩
      replace F := F h2 eh2
      refine x_iastore hG hM d_Wi_spreadBack_33 c13 c14 ?_
      rw [← eh2]
      clear eh2
      refine x_aload_n hM d_Wi_spreadBack_34 rfl 0 rfl ?_
      obtain ⟨c11, F⟩ := F
      obtain ⟨c12, F⟩ := F
      refine x_getr hG hM ck_Wi 0 (Nat.le_of_ble_eq_true rfl) rfl rfl w_283 rfl d_Wi_spreadBack_35 c11 c12 ?_
      refine x_iload hM d_Wi_spreadBack_38 5 rfl ?_
      obtain ⟨c9, F⟩ := F
      obtain ⟨c10, F⟩ := F
      refine x_zaload hG hM d_Wi_spreadBack_40 c9 c10 ?_
      refine x_if_eq (tgt := 56) hM d_Wi_spreadBack_41 (by decide) (fun q8 => ?_) (fun q8 => ?_)
      · replace F := F.1 q8
        refine x_iinc (v := (v5 + 1)) (lv2 := [(5, .int (v5 + 1)), (0, .ref v0), (1, .ref v1), (2, .int v2), (3, .ref v3), (4, .int v4)]) hM d_Wi_spreadBack_56 (j := 5) rfl rfl (Nat.le_of_ble_eq_true rfl) rfl ?_
        refine x_goto (tgt := 6) hM d_Wi_spreadBack_59 (by decide) ?_
        refine x_sub [1, 2, 3, 4, 5, 0] rfl ?_
        exact F
      · replace F := F.2 q8
        refine x_aload_n hM d_Wi_spreadBack_44 rfl 0 rfl ?_
        obtain ⟨c6, F⟩ := F
        obtain ⟨c7, F⟩ := F
        refine x_getr hG hM ck_Wi 8 (Nat.le_of_ble_eq_true rfl) rfl rfl w_295 rfl d_Wi_spreadBack_45 c6 c7 ?_
        refine x_iload hM d_Wi_spreadBack_48 4 rfl ?_
        refine x_iload hM d_Wi_spreadBack_50 5 rfl ?_
        obtain ⟨c4, F⟩ := F
        obtain ⟨c5, F⟩ := F
        obtain ⟨h3, eh3⟩ : ∃ z : Hp, z = wI h2 (rf h2 v0 8) (Int32.toNatClampNeg v4) v5 := ⟨_, rfl⟩
        replace F := F h3 eh3
        refine x_iastore hG hM d_Wi_spreadBack_52 c4 c5 ?_
        rw [← eh3]
        clear eh3
        refine x_iinc (v := (v4 + 1)) (lv2 := [(4, .int (v4 + 1)), (0, .ref v0), (1, .ref v1), (2, .int v2), (3, .ref v3), (5, .int v5)]) hM d_Wi_spreadBack_53 (j := 4) rfl rfl (Nat.le_of_ble_eq_true rfl) rfl ?_
        refine x_iinc (v := (v5 + 1)) (lv2 := [(5, .int (v5 + 1)), (4, .int (v4 + 1)), (0, .ref v0), (1, .ref v1), (2, .int v2), (3, .ref v3)]) hM d_Wi_spreadBack_56 (j := 5) rfl rfl (Nat.le_of_ble_eq_true rfl) rfl ?_
        refine x_goto (tgt := 6) hM d_Wi_spreadBack_59 (by decide) ?_
        refine x_sub [2, 3, 4, 5, 1, 0] rfl ?_
        exact F
    refine x_if_eq (tgt := 32) hM d_Wi_spreadBack_25 (by decide) (fun q15 => ?_) (fun q15 => ?_)
    · refine x_iconst (v := (-1)) hM d_Wi_spreadBack_32 (by decide) ?_
      exact JJ _ (Eq.symm (if_pos q15))
    · refine x_iconst (v := 0) hM d_Wi_spreadBack_28 (by decide) ?_
      refine x_goto (tgt := 33) hM d_Wi_spreadBack_29 (by decide) ?_
      exact JJ _ (Eq.symm (if_neg q15))
set_option maxRecDepth 100000 in
set_option maxHeartbeats 4000000 in
theorem S_Wi_spreadBack_65 {G : Gc} {M : Mc} {Q : State → Prop} {K : Option Value → Hp → Prop} (hG : gok G) (hM : mok G M r_Wi_spreadBack Q K) (v0 : Nat) (v1 : Nat) (v2 : Int32) (v3 : Nat) (v4 : Int32) (v5 : Int32) (h : Hp) (F : (v4 ≤ v5 → K (some (.int v4)) h) ∧ (¬ v4 ≤ v5 → (kT h v1 = 2 ∧ (((kI h v1 1) ≤ v5 → K (some (.int v4)) h) ∧ (¬ (kI h v1 1) ≤ v5 → (kT h v0 = 9 ∧ kR h v0 8 = some (rf h v0 8) ∧ (kT h (rf h v0 8) = 50 ∧ vp_in v5 (kN h (rf h v0 8)) ∧ (kT h v1 = 2 ∧ kR h v1 7 = some (rf h v1 7) ∧ (kT h (rf h v1 7) = 50 ∧ vp_in (kI h (rf h v0 8) (Int32.toNatClampNeg v5)) (kN h (rf h v1 7)) ∧ X G M Q 102 [(0, .ref v0), (1, .ref v1), (2, .int v2), (3, .ref v3), (4, .int v4), (5, .int v5), (6, .int (kI h (rf h v0 8) (Int32.toNatClampNeg v5))), (7, .int (kI h (rf h v1 7) (Int32.toNatClampNeg (kI h (rf h v0 8) (Int32.toNatClampNeg v5))))), (8, .int 0)] [] h))))))))) : X G M Q 65 [(0, .ref v0), (1, .ref v1), (2, .int v2), (3, .ref v3), (4, .int v4), (5, .int v5)] [] h := by
  refine x_iload hM d_Wi_spreadBack_65 5 rfl ?_
  refine x_iload hM d_Wi_spreadBack_67 4 rfl ?_
  refine x_icmp_ge (tgt := 187) hM d_Wi_spreadBack_69 (by decide) (fun q11 => ?_) (fun q11 => ?_)
  · replace F := F.1 q11
    refine x_iload hM d_Wi_spreadBack_187 4 rfl ?_
    exact x_ireturn hM d_Wi_spreadBack_189 rfl F
  · replace F := F.2 q11
    refine x_iload hM d_Wi_spreadBack_72 5 rfl ?_
    refine x_aload_n hM d_Wi_spreadBack_74 rfl 1 rfl ?_
    obtain ⟨c10, F⟩ := F
    refine x_geti hG hM ck_Wo 1 (Nat.le_of_ble_eq_true rfl) rfl rfl w_128 rfl d_Wi_spreadBack_75 c10 ?_
    refine x_icmp_ge (tgt := 187) hM d_Wi_spreadBack_78 (by decide) (fun q9 => ?_) (fun q9 => ?_)
    · replace F := F.1 q9
      refine x_iload hM d_Wi_spreadBack_187 4 rfl ?_
      exact x_ireturn hM d_Wi_spreadBack_189 rfl F
    · replace F := F.2 q9
      refine x_aload_n hM d_Wi_spreadBack_81 rfl 0 rfl ?_
      obtain ⟨c7, F⟩ := F
      obtain ⟨c8, F⟩ := F
      refine x_getr hG hM ck_Wi 8 (Nat.le_of_ble_eq_true rfl) rfl rfl w_295 rfl d_Wi_spreadBack_82 c7 c8 ?_
      refine x_iload hM d_Wi_spreadBack_85 5 rfl ?_
      obtain ⟨c5, F⟩ := F
      obtain ⟨c6, F⟩ := F
      refine x_iaload hG hM d_Wi_spreadBack_87 c5 c6 ?_
      refine x_istore (lv2 := [(6, .int (kI h (rf h v0 8) (Int32.toNatClampNeg v5))), (0, .ref v0), (1, .ref v1), (2, .int v2), (3, .ref v3), (4, .int v4), (5, .int v5)]) hM d_Wi_spreadBack_88 (Nat.le_of_ble_eq_true rfl) rfl ?_
      refine x_aload_n hM d_Wi_spreadBack_90 rfl 2 rfl ?_
      obtain ⟨c3, F⟩ := F
      obtain ⟨c4, F⟩ := F
      refine x_getr hG hM ck_Wo 7 (Nat.le_of_ble_eq_true rfl) rfl rfl w_157 rfl d_Wi_spreadBack_91 c3 c4 ?_
      refine x_iload hM d_Wi_spreadBack_94 0 rfl ?_
      obtain ⟨c1, F⟩ := F
      obtain ⟨c2, F⟩ := F
      refine x_iaload hG hM d_Wi_spreadBack_96 c1 c2 ?_
      refine x_istore (lv2 := [(7, .int (kI h (rf h v1 7) (Int32.toNatClampNeg (kI h (rf h v0 8) (Int32.toNatClampNeg v5))))), (6, .int (kI h (rf h v0 8) (Int32.toNatClampNeg v5))), (0, .ref v0), (1, .ref v1), (2, .int v2), (3, .ref v3), (4, .int v4), (5, .int v5)]) hM d_Wi_spreadBack_97 (Nat.le_of_ble_eq_true rfl) rfl ?_
      refine x_iconst (v := 0) hM d_Wi_spreadBack_99 (by decide) ?_
      refine x_istore (lv2 := [(8, .int 0), (7, .int (kI h (rf h v1 7) (Int32.toNatClampNeg (kI h (rf h v0 8) (Int32.toNatClampNeg v5))))), (6, .int (kI h (rf h v0 8) (Int32.toNatClampNeg v5))), (0, .ref v0), (1, .ref v1), (2, .int v2), (3, .ref v3), (4, .int v4), (5, .int v5)]) hM d_Wi_spreadBack_100 (Nat.le_of_ble_eq_true rfl) rfl ?_
      refine x_sub [3, 4, 5, 6, 7, 8, 2, 1, 0] rfl ?_
      exact F
set_option maxRecDepth 100000 in
set_option maxHeartbeats 4000000 in
theorem S_Wi_spreadBack_102 {G : Gc} {M : Mc} {Q : State → Prop} {K : Option Value → Hp → Prop} (hG : gok G) (hM : mok G M r_Wi_spreadBack Q K) (v0 : Nat) (v1 : Nat) (v2 : Int32) (v3 : Nat) (v4 : Int32) (v5 : Int32) (v6 : Int32) (v7 : Int32) (v8 : Int32) (h : Hp) (F : (147456 ≤ v8 → X G M Q 65 [(0, .ref v0), (1, .ref v1), (2, .int v2), (3, .ref v3), (4, .int v4), (5, .int (v5 + 1))] [] h) ∧ (¬ 147456 ≤ v8 → ((v7 = (-1) → X G M Q 65 [(0, .ref v0), (1, .ref v1), (2, .int v2), (3, .ref v3), (4, .int v4), (5, .int (v5 + 1))] [] h) ∧ (¬ v7 = (-1) → (sem G r_WP_stateOf [.int v7] h (fun u2 h1 => ∃ x3 : Int32, u2 = some (.int x3) ∧ (kT h1 v3 = 50 ∧ vp_in x3 (kN h1 v3) ∧ (((kI h1 v3 (Int32.toNatClampNeg x3)) = (-1) → (kT h1 v3 = 50 ∧ vp_in v6 (kN h1 v3) ∧ (kT h1 v0 = 9 ∧ sem G r_Wi_mayCome [.ref v0, .ref v1, .int v7, .int v2, .int (kI h1 v3 (Int32.toNatClampNeg v6))] h1 (fun u9 h8 => ∃ x10 : Int32, u9 = some (.int x10) ∧ ((x10 = 0 → (kT h8 v1 = 2 ∧ sem G r_Wo_nextInto [.ref v1, .int v7] h8 (fun u12 h11 => ∃ x13 : Int32, u12 = some (.int x13) ∧ X G M Q 102 [(0, .ref v0), (1, .ref v1), (2, .int v2), (3, .ref v3), (4, .int v4), (5, .int v5), (6, .int v6), (7, .int x13), (8, .int (v8 + 1))] [] h11))) ∧ (¬ x10 = 0 → (kT h8 v3 = 50 ∧ vp_in v6 (kN h8 v3) ∧ (kT h8 v3 = 50 ∧ vp_in x3 (kN h8 v3) ∧ (∀ h15 : Hp, h15 = wI h8 v3 (Int32.toNatClampNeg x3) ((kI h8 v3 (Int32.toNatClampNeg v6)) + 1) → (kT h15 v0 = 9 ∧ kR h15 v0 8 = some (rf h15 v0 8) ∧ (kT h15 (rf h15 v0 8) = 50 ∧ vp_in v4 (kN h15 (rf h15 v0 8)) ∧ (∀ h16 : Hp, h16 = wI h15 (rf h15 v0 8) (Int32.toNatClampNeg v4) x3 → (kT h16 v1 = 2 ∧ sem G r_Wo_nextInto [.ref v1, .int v7] h16 (fun u18 h17 => ∃ x19 : Int32, u18 = some (.int x19) ∧ X G M Q 102 [(0, .ref v0), (1, .ref v1), (2, .int v2), (3, .ref v3), (4, .int (v4 + 1)), (5, .int v5), (6, .int v6), (7, .int x19), (8, .int (v8 + 1))] [] h17)))))))))))))) ∧ (¬ (kI h1 v3 (Int32.toNatClampNeg x3)) = (-1) → (kT h1 v1 = 2 ∧ sem G r_Wo_nextInto [.ref v1, .int v7] h1 (fun u5 h4 => ∃ x6 : Int32, u5 = some (.int x6) ∧ X G M Q 102 [(0, .ref v0), (1, .ref v1), (2, .int v2), (3, .ref v3), (4, .int v4), (5, .int v5), (6, .int v6), (7, .int x6), (8, .int (v8 + 1))] [] h4))))))))))) : X G M Q 102 [(0, .ref v0), (1, .ref v1), (2, .int v2), (3, .ref v3), (4, .int v4), (5, .int v5), (6, .int v6), (7, .int v7), (8, .int v8)] [] h := by
  refine x_iload hM d_Wi_spreadBack_102 8 rfl ?_
  refine x_ldc hG hM rfl w_663 d_Wi_spreadBack_104 ?_
  refine x_icmp_ge (tgt := 181) hM d_Wi_spreadBack_106 (by decide) (fun q37 => ?_) (fun q37 => ?_)
  · replace F := F.1 q37
    refine x_iinc (v := (v5 + 1)) (lv2 := [(5, .int (v5 + 1)), (0, .ref v0), (1, .ref v1), (2, .int v2), (3, .ref v3), (4, .int v4), (6, .int v6), (7, .int v7), (8, .int v8)]) hM d_Wi_spreadBack_181 (j := 5) rfl rfl (Nat.le_of_ble_eq_true rfl) rfl ?_
    refine x_goto (tgt := 65) hM d_Wi_spreadBack_184 (by decide) ?_
    refine x_sub [1, 2, 3, 4, 5, 0] rfl ?_
    exact F
  · replace F := F.2 q37
    refine x_iload hM d_Wi_spreadBack_109 7 rfl ?_
    refine x_iconst (v := (-1)) hM d_Wi_spreadBack_111 (by decide) ?_
    refine x_icmp_eq (tgt := 181) hM d_Wi_spreadBack_112 (by decide) (fun q36 => ?_) (fun q36 => ?_)
    · replace F := F.1 q36
      refine x_iinc (v := (v5 + 1)) (lv2 := [(5, .int (v5 + 1)), (0, .ref v0), (1, .ref v1), (2, .int v2), (3, .ref v3), (4, .int v4), (6, .int v6), (7, .int v7), (8, .int v8)]) hM d_Wi_spreadBack_181 (j := 5) rfl rfl (Nat.le_of_ble_eq_true rfl) rfl ?_
      refine x_goto (tgt := 65) hM d_Wi_spreadBack_184 (by decide) ?_
      refine x_sub [1, 2, 3, 4, 5, 0] rfl ?_
      exact F
    · replace F := F.2 q36
      refine x_iload hM d_Wi_spreadBack_115 7 rfl ?_
      refine x_callSN hG hM (r' := r_WP_stateOf) [.int v7] rfl yk_WP_stateOf ⟨Nat.le_of_ble_eq_true rfl, Nat.le_of_ble_eq_true rfl⟩ w_664 w_665 rfl rfl (Nat.le_of_ble_eq_true rfl) d_Wi_spreadBack_117 (sem_mono F ?_)
      intro u2 h1 F
      obtain ⟨x3, rfl, F⟩ := F
      refine x_istore (lv2 := [(9, .int x3), (0, .ref v0), (1, .ref v1), (2, .int v2), (3, .ref v3), (4, .int v4), (5, .int v5), (6, .int v6), (7, .int v7), (8, .int v8)]) hM d_Wi_spreadBack_120 (Nat.le_of_ble_eq_true rfl) rfl ?_
      refine x_aload_n hM d_Wi_spreadBack_122 rfl 4 rfl ?_
      refine x_iload hM d_Wi_spreadBack_123 0 rfl ?_
      obtain ⟨c34, F⟩ := F
      obtain ⟨c35, F⟩ := F
      refine x_iaload hG hM d_Wi_spreadBack_125 c34 c35 ?_
      refine x_iconst (v := (-1)) hM d_Wi_spreadBack_126 (by decide) ?_
      refine x_icmp_ne (tgt := 167) hM d_Wi_spreadBack_127 (by decide) (fun q33 => ?_) (fun q33 => ?_)
      · replace F := F.2 q33
        refine x_aload_n hM d_Wi_spreadBack_167 rfl 2 rfl ?_
        refine x_iload hM d_Wi_spreadBack_168 8 rfl ?_
        obtain ⟨c7, F⟩ := F
        refine x_callV hG hM (r' := r_Wo_nextInto) (ci := 1) [.int v7] rfl rfl (Nat.le_of_ble_eq_true rfl) yk_Wo_nextInto ⟨Nat.le_of_ble_eq_true rfl, Nat.le_of_ble_eq_true rfl⟩ w_674 w_675 w_676 rfl rfl (Nat.le_of_ble_eq_true rfl) d_Wi_spreadBack_170 c7 (sem_mono F ?_)
        intro u5 h4 F
        obtain ⟨x6, rfl, F⟩ := F
        refine x_istore (lv2 := [(7, .int x6), (9, .int x3), (0, .ref v0), (1, .ref v1), (2, .int v2), (3, .ref v3), (4, .int v4), (5, .int v5), (6, .int v6), (8, .int v8)]) hM d_Wi_spreadBack_173 (Nat.le_of_ble_eq_true rfl) rfl ?_
        refine x_iinc (v := (v8 + 1)) (lv2 := [(8, .int (v8 + 1)), (7, .int x6), (9, .int x3), (0, .ref v0), (1, .ref v1), (2, .int v2), (3, .ref v3), (4, .int v4), (5, .int v5), (6, .int v6)]) hM d_Wi_spreadBack_175 (j := 9) rfl rfl (Nat.le_of_ble_eq_true rfl) rfl ?_
        refine x_goto (tgt := 102) hM d_Wi_spreadBack_178 (by decide) ?_
        refine x_sub [3, 4, 5, 6, 7, 8, 9, 1, 0] rfl ?_
        exact F
      · replace F := F.1 q33
        refine x_aload_n hM d_Wi_spreadBack_130 rfl 1 rfl ?_
        refine x_aload_n hM d_Wi_spreadBack_131 rfl 2 rfl ?_
        refine x_iload hM d_Wi_spreadBack_132 8 rfl ?_
        refine x_iload_n hM d_Wi_spreadBack_134 rfl 3 rfl ?_
        refine x_aload_n hM d_Wi_spreadBack_135 rfl 4 rfl ?_
        refine x_iload hM d_Wi_spreadBack_136 7 rfl ?_
        obtain ⟨c31, F⟩ := F
        obtain ⟨c32, F⟩ := F
        refine x_iaload hG hM d_Wi_spreadBack_138 c31 c32 ?_
        obtain ⟨c30, F⟩ := F
        refine x_callV hG hM (r' := r_Wi_mayCome) (ci := 8) [.ref v1, .int v7, .int v2, .int (kI h1 v3 (Int32.toNatClampNeg v6))] rfl rfl (Nat.le_of_ble_eq_true rfl) yk_Wi_mayCome ⟨Nat.le_of_ble_eq_true rfl, Nat.le_of_ble_eq_true rfl⟩ w_667 w_669 ws_Wi_mayCome rfl rfl (Nat.le_of_ble_eq_true rfl) d_Wi_spreadBack_139 c30 (sem_mono F ?_)
        intro u9 h8 F
        obtain ⟨x10, rfl, F⟩ := F
        refine x_if_eq (tgt := 167) hM d_Wi_spreadBack_142 (by decide) (fun q29 => ?_) (fun q29 => ?_)
        · replace F := F.1 q29
          refine x_aload_n hM d_Wi_spreadBack_167 rfl 2 rfl ?_
          refine x_iload hM d_Wi_spreadBack_168 8 rfl ?_
          obtain ⟨c14, F⟩ := F
          refine x_callV hG hM (r' := r_Wo_nextInto) (ci := 1) [.int v7] rfl rfl (Nat.le_of_ble_eq_true rfl) yk_Wo_nextInto ⟨Nat.le_of_ble_eq_true rfl, Nat.le_of_ble_eq_true rfl⟩ w_674 w_675 w_676 rfl rfl (Nat.le_of_ble_eq_true rfl) d_Wi_spreadBack_170 c14 (sem_mono F ?_)
          intro u12 h11 F
          obtain ⟨x13, rfl, F⟩ := F
          refine x_istore (lv2 := [(7, .int x13), (9, .int x3), (0, .ref v0), (1, .ref v1), (2, .int v2), (3, .ref v3), (4, .int v4), (5, .int v5), (6, .int v6), (8, .int v8)]) hM d_Wi_spreadBack_173 (Nat.le_of_ble_eq_true rfl) rfl ?_
          refine x_iinc (v := (v8 + 1)) (lv2 := [(8, .int (v8 + 1)), (7, .int x13), (9, .int x3), (0, .ref v0), (1, .ref v1), (2, .int v2), (3, .ref v3), (4, .int v4), (5, .int v5), (6, .int v6)]) hM d_Wi_spreadBack_175 (j := 9) rfl rfl (Nat.le_of_ble_eq_true rfl) rfl ?_
          refine x_goto (tgt := 102) hM d_Wi_spreadBack_178 (by decide) ?_
          refine x_sub [3, 4, 5, 6, 7, 8, 9, 1, 0] rfl ?_
          exact F
        · replace F := F.2 q29
          refine x_aload_n hM d_Wi_spreadBack_145 rfl 4 rfl ?_
          refine x_iload hM d_Wi_spreadBack_146 0 rfl ?_
          refine x_aload_n hM d_Wi_spreadBack_148 rfl 4 rfl ?_
          refine x_iload hM d_Wi_spreadBack_149 7 rfl ?_
          obtain ⟨c27, F⟩ := F
          obtain ⟨c28, F⟩ := F
          refine x_iaload hG hM d_Wi_spreadBack_151 c27 c28 ?_
          refine x_iconst (v := 1) hM d_Wi_spreadBack_152 (by decide) ?_
          refine x_iadd hM d_Wi_spreadBack_153 ?_
          obtain ⟨c25, F⟩ := F
          obtain ⟨c26, F⟩ := F
          obtain ⟨h15, eh15⟩ : ∃ z : Hp, z = wI h8 v3 (Int32.toNatClampNeg x3) ((kI h8 v3 (Int32.toNatClampNeg v6)) + 1) := ⟨_, rfl⟩
          replace F := F h15 eh15
          refine x_iastore hG hM d_Wi_spreadBack_154 c25 c26 ?_
          rw [← eh15]
          clear eh15
          refine x_aload_n hM d_Wi_spreadBack_155 rfl 1 rfl ?_
          obtain ⟨c23, F⟩ := F
          obtain ⟨c24, F⟩ := F
          refine x_getr hG hM ck_Wi 8 (Nat.le_of_ble_eq_true rfl) rfl rfl w_295 rfl d_Wi_spreadBack_156 c23 c24 ?_
          refine x_iload hM d_Wi_spreadBack_159 5 rfl ?_
          refine x_iload hM d_Wi_spreadBack_161 0 rfl ?_
          obtain ⟨c21, F⟩ := F
          obtain ⟨c22, F⟩ := F
          obtain ⟨h16, eh16⟩ : ∃ z : Hp, z = wI h15 (rf h15 v0 8) (Int32.toNatClampNeg v4) x3 := ⟨_, rfl⟩
          replace F := F h16 eh16
          refine x_iastore hG hM d_Wi_spreadBack_163 c21 c22 ?_
          rw [← eh16]
          clear eh16
          refine x_iinc (v := (v4 + 1)) (lv2 := [(4, .int (v4 + 1)), (9, .int x3), (0, .ref v0), (1, .ref v1), (2, .int v2), (3, .ref v3), (5, .int v5), (6, .int v6), (7, .int v7), (8, .int v8)]) hM d_Wi_spreadBack_164 (j := 5) rfl rfl (Nat.le_of_ble_eq_true rfl) rfl ?_
          refine x_aload_n hM d_Wi_spreadBack_167 rfl 3 rfl ?_
          refine x_iload hM d_Wi_spreadBack_168 8 rfl ?_
          obtain ⟨c20, F⟩ := F
          refine x_callV hG hM (r' := r_Wo_nextInto) (ci := 1) [.int v7] rfl rfl (Nat.le_of_ble_eq_true rfl) yk_Wo_nextInto ⟨Nat.le_of_ble_eq_true rfl, Nat.le_of_ble_eq_true rfl⟩ w_674 w_675 w_676 rfl rfl (Nat.le_of_ble_eq_true rfl) d_Wi_spreadBack_170 c20 (sem_mono F ?_)
          intro u18 h17 F
          obtain ⟨x19, rfl, F⟩ := F
          refine x_istore (lv2 := [(7, .int x19), (4, .int (v4 + 1)), (9, .int x3), (0, .ref v0), (1, .ref v1), (2, .int v2), (3, .ref v3), (5, .int v5), (6, .int v6), (8, .int v8)]) hM d_Wi_spreadBack_173 (Nat.le_of_ble_eq_true rfl) rfl ?_
          refine x_iinc (v := (v8 + 1)) (lv2 := [(8, .int (v8 + 1)), (7, .int x19), (4, .int (v4 + 1)), (9, .int x3), (0, .ref v0), (1, .ref v1), (2, .int v2), (3, .ref v3), (5, .int v5), (6, .int v6)]) hM d_Wi_spreadBack_175 (j := 9) rfl rfl (Nat.le_of_ble_eq_true rfl) rfl ?_
          refine x_goto (tgt := 102) hM d_Wi_spreadBack_178 (by decide) ?_
          refine x_sub [4, 5, 6, 7, 2, 8, 9, 1, 0] rfl ?_
          exact F
