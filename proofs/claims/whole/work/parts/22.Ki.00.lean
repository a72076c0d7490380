theorem d_Ki_init_0 : decode b_Ki_init 0 = .ok (.aload_n 0, 1) := by decide +kernel
theorem d_Ki_init_1 : decode b_Ki_init 1 = .ok (.invokespecial 3, 3) := by decide +kernel
theorem d_Ki_init_4 : decode b_Ki_init 4 = .ok (.aload_n 0, 1) := by decide +kernel
theorem d_Ki_init_5 : decode b_Ki_init 5 = .ok (.iconst 0, 1) := by decide +kernel
theorem d_Ki_init_6 : decode b_Ki_init 6 = .ok (.putfield 9, 3) := by decide +kernel
theorem d_Ki_init_9 : decode b_Ki_init 9 = .ok (.aload_n 0, 1) := by decide +kernel
theorem d_Ki_init_10 : decode b_Ki_init 10 = .ok (.lconst 0, 1) := by decide +kernel
theorem d_Ki_init_11 : decode b_Ki_init 11 = .ok (.putfield 15, 3) := by decide +kernel
theorem d_Ki_init_14 : decode b_Ki_init 14 = .ok (.aload_n 0, 1) := by decide +kernel
theorem d_Ki_init_15 : decode b_Ki_init 15 = .ok (.iconst 0, 1) := by decide +kernel
theorem d_Ki_init_16 : decode b_Ki_init 16 = .ok (.newarray .int, 2) := by decide +kernel
theorem d_Ki_init_18 : decode b_Ki_init 18 = .ok (.putfield 19, 3) := by decide +kernel
theorem d_Ki_init_21 : decode b_Ki_init 21 = .ok (.aload_n 0, 1) := by decide +kernel
theorem d_Ki_init_22 : decode b_Ki_init 22 = .ok (.iconst 0, 1) := by decide +kernel
theorem d_Ki_init_23 : decode b_Ki_init 23 = .ok (.newarray .int, 2) := by decide +kernel
theorem d_Ki_init_25 : decode b_Ki_init 25 = .ok (.putfield 23, 3) := by decide +kernel
theorem d_Ki_init_28 : decode b_Ki_init 28 = .ok (.aload_n 0, 1) := by decide +kernel
theorem d_Ki_init_29 : decode b_Ki_init 29 = .ok (.iconst 0, 1) := by decide +kernel
theorem d_Ki_init_30 : decode b_Ki_init 30 = .ok (.newarray .int, 2) := by decide +kernel
theorem d_Ki_init_32 : decode b_Ki_init 32 = .ok (.putfield 26, 3) := by decide +kernel
theorem d_Ki_init_35 : decode b_Ki_init 35 = .ok (.aload_n 0, 1) := by decide +kernel
theorem d_Ki_init_36 : decode b_Ki_init 36 = .ok (.iconst 0, 1) := by decide +kernel
theorem d_Ki_init_37 : decode b_Ki_init 37 = .ok (.newarray .int, 2) := by decide +kernel
theorem d_Ki_init_39 : decode b_Ki_init 39 = .ok (.putfield 29, 3) := by decide +kernel
theorem d_Ki_init_42 : decode b_Ki_init 42 = .ok (.aload_n 0, 1) := by decide +kernel
theorem d_Ki_init_43 : decode b_Ki_init 43 = .ok (.iconst 0, 1) := by decide +kernel
theorem d_Ki_init_44 : decode b_Ki_init 44 = .ok (.newarray .int, 2) := by decide +kernel
theorem d_Ki_init_46 : decode b_Ki_init 46 = .ok (.putfield 32, 3) := by decide +kernel
theorem d_Ki_init_49 : decode b_Ki_init 49 = .ok (.aload_n 0, 1) := by decide +kernel
theorem d_Ki_init_50 : decode b_Ki_init 50 = .ok (.iconst 0, 1) := by decide +kernel
theorem d_Ki_init_51 : decode b_Ki_init 51 = .ok (.newarray .int, 2) := by decide +kernel
theorem d_Ki_init_53 : decode b_Ki_init 53 = .ok (.putfield 35, 3) := by decide +kernel
theorem d_Ki_init_56 : decode b_Ki_init 56 = .ok (.aload_n 0, 1) := by decide +kernel
theorem d_Ki_init_57 : decode b_Ki_init 57 = .ok (.iconst 0, 1) := by decide +kernel
theorem d_Ki_init_58 : decode b_Ki_init 58 = .ok (.newarray .int, 2) := by decide +kernel
theorem d_Ki_init_60 : decode b_Ki_init 60 = .ok (.putfield 38, 3) := by decide +kernel
theorem d_Ki_init_63 : decode b_Ki_init 63 = .ok (.aload_n 0, 1) := by decide +kernel
theorem d_Ki_init_64 : decode b_Ki_init 64 = .ok (.iconst 0, 1) := by decide +kernel
theorem d_Ki_init_65 : decode b_Ki_init 65 = .ok (.newarray .int, 2) := by decide +kernel
theorem d_Ki_init_67 : decode b_Ki_init 67 = .ok (.putfield 41, 3) := by decide +kernel
theorem d_Ki_init_70 : decode b_Ki_init 70 = .ok (.aload_n 0, 1) := by decide +kernel
theorem d_Ki_init_71 : decode b_Ki_init 71 = .ok (.iconst 0, 1) := by decide +kernel
theorem d_Ki_init_72 : decode b_Ki_init 72 = .ok (.newarray .int, 2) := by decide +kernel
theorem d_Ki_init_74 : decode b_Ki_init 74 = .ok (.putfield 44, 3) := by decide +kernel
theorem d_Ki_init_77 : decode b_Ki_init 77 = .ok (.aload_n 0, 1) := by decide +kernel
theorem d_Ki_init_78 : decode b_Ki_init 78 = .ok (.iconst 0, 1) := by decide +kernel
theorem d_Ki_init_79 : decode b_Ki_init 79 = .ok (.putfield 47, 3) := by decide +kernel
theorem d_Ki_init_82 : decode b_Ki_init 82 = .ok (.aload_n 0, 1) := by decide +kernel
theorem d_Ki_init_83 : decode b_Ki_init 83 = .ok (.iconst 0, 1) := by decide +kernel
theorem d_Ki_init_84 : decode b_Ki_init 84 = .ok (.newarray .int, 2) := by decide +kernel
theorem d_Ki_init_86 : decode b_Ki_init 86 = .ok (.putfield 50, 3) := by decide +kernel
theorem d_Ki_init_89 : decode b_Ki_init 89 = .ok (.aload_n 0, 1) := by decide +kernel
theorem d_Ki_init_90 : decode b_Ki_init 90 = .ok (.iconst 0, 1) := by decide +kernel
theorem d_Ki_init_91 : decode b_Ki_init 91 = .ok (.newarray .int, 2) := by decide +kernel
theorem d_Ki_init_93 : decode b_Ki_init 93 = .ok (.putfield 53, 3) := by decide +kernel
theorem d_Ki_init_96 : decode b_Ki_init 96 = .ok (.aload_n 0, 1) := by decide +kernel
theorem d_Ki_init_97 : decode b_Ki_init 97 = .ok (.iconst 0, 1) := by decide +kernel
theorem d_Ki_init_98 : decode b_Ki_init 98 = .ok (.newarray .int, 2) := by decide +kernel
theorem d_Ki_init_100 : decode b_Ki_init 100 = .ok (.putfield 56, 3) := by decide +kernel
theorem d_Ki_init_103 : decode b_Ki_init 103 = .ok (.aload_n 0, 1) := by decide +kernel
theorem d_Ki_init_104 : decode b_Ki_init 104 = .ok (.iconst 0, 1) := by decide +kernel
theorem d_Ki_init_105 : decode b_Ki_init 105 = .ok (.newarray .int, 2) := by decide +kernel
theorem d_Ki_init_107 : decode b_Ki_init 107 = .ok (.putfield 59, 3) := by decide +kernel
theorem d_Ki_init_110 : decode b_Ki_init 110 = .ok (.aload_n 0, 1) := by decide +kernel
theorem d_Ki_init_111 : decode b_Ki_init 111 = .ok (.iconst 0, 1) := by decide +kernel
theorem d_Ki_init_112 : decode b_Ki_init 112 = .ok (.newarray .int, 2) := by decide +kernel
theorem d_Ki_init_114 : decode b_Ki_init 114 = .ok (.putfield 62, 3) := by decide +kernel
theorem d_Ki_init_117 : decode b_Ki_init 117 = .ok (.aload_n 0, 1) := by decide +kernel
theorem d_Ki_init_118 : decode b_Ki_init 118 = .ok (.iconst 0, 1) := by decide +kernel
theorem d_Ki_init_119 : decode b_Ki_init 119 = .ok (.newarray .long, 2) := by decide +kernel
theorem d_Ki_init_121 : decode b_Ki_init 121 = .ok (.putfield 65, 3) := by decide +kernel
theorem d_Ki_init_124 : decode b_Ki_init 124 = .ok (.return_, 1) := by decide +kernel
set_option maxRecDepth 100000 in
set_option maxHeartbeats 4000000 in
theorem S_Ki_init_0 {G : Gc} {M : Mc} {Q : State → Prop} {K : Option Value → Hp → Prop} (hG : gok G) (hM : mok G M r_Ki_init Q K) (v0 : Nat) (h : Hp) (F : kT h v0 = 10 ∧ (∀ h1 : Hp, h1 = wI h v0 0 0 → (kT h1 v0 = 10 ∧ (∀ h2 : Hp, h2 = wL h1 v0 1 0 → (kX h2 + 1 ≤ gB G + capC ∧ kS h2 + 0 ≤ capS ∧ (∀ h3 : Hp, h3 = wA h2 50 0 0 → (kT h3 v0 = 10 ∧ (∀ h4 : Hp, h4 = wR h3 v0 2 (some (kX h2)) → (kX h4 + 1 ≤ gB G + capC ∧ kS h4 + 0 ≤ capS ∧ (∀ h5 : Hp, h5 = wA h4 50 0 0 → (kT h5 v0 = 10 ∧ (∀ h6 : Hp, h6 = wR h5 v0 3 (some (kX h4)) → (kX h6 + 1 ≤ gB G + capC ∧ kS h6 + 0 ≤ capS ∧ (∀ h7 : Hp, h7 = wA h6 50 0 0 → (kT h7 v0 = 10 ∧ (∀ h8 : Hp, h8 = wR h7 v0 4 (some (kX h6)) → (kX h8 + 1 ≤ gB G + capC ∧ kS h8 + 0 ≤ capS ∧ (∀ h9 : Hp, h9 = wA h8 50 0 0 → (kT h9 v0 = 10 ∧ (∀ h10 : Hp, h10 = wR h9 v0 5 (some (kX h8)) → (kX h10 + 1 ≤ gB G + capC ∧ kS h10 + 0 ≤ capS ∧ (∀ h11 : Hp, h11 = wA h10 50 0 0 → (kT h11 v0 = 10 ∧ (∀ h12 : Hp, h12 = wR h11 v0 6 (some (kX h10)) → (kX h12 + 1 ≤ gB G + capC ∧ kS h12 + 0 ≤ capS ∧ (∀ h13 : Hp, h13 = wA h12 50 0 0 → (kT h13 v0 = 10 ∧ (∀ h14 : Hp, h14 = wR h13 v0 7 (some (kX h12)) → (kX h14 + 1 ≤ gB G + capC ∧ kS h14 + 0 ≤ capS ∧ (∀ h15 : Hp, h15 = wA h14 50 0 0 → (kT h15 v0 = 10 ∧ (∀ h16 : Hp, h16 = wR h15 v0 8 (some (kX h14)) → (kX h16 + 1 ≤ gB G + capC ∧ kS h16 + 0 ≤ capS ∧ (∀ h17 : Hp, h17 = wA h16 50 0 0 → (kT h17 v0 = 10 ∧ (∀ h18 : Hp, h18 = wR h17 v0 9 (some (kX h16)) → (kX h18 + 1 ≤ gB G + capC ∧ kS h18 + 0 ≤ capS ∧ (∀ h19 : Hp, h19 = wA h18 50 0 0 → (kT h19 v0 = 10 ∧ (∀ h20 : Hp, h20 = wR h19 v0 10 (some (kX h18)) → (kT h20 v0 = 10 ∧ (∀ h21 : Hp, h21 = wI h20 v0 11 0 → (kX h21 + 1 ≤ gB G + capC ∧ kS h21 + 0 ≤ capS ∧ (∀ h22 : Hp, h22 = wA h21 50 0 0 → (kT h22 v0 = 10 ∧ (∀ h23 : Hp, h23 = wR h22 v0 12 (some (kX h21)) → (kX h23 + 1 ≤ gB G + capC ∧ kS h23 + 0 ≤ capS ∧ (∀ h24 : Hp, h24 = wA h23 50 0 0 → (kT h24 v0 = 10 ∧ (∀ h25 : Hp, h25 = wR h24 v0 13 (some (kX h23)) → (kX h25 + 1 ≤ gB G + capC ∧ kS h25 + 0 ≤ capS ∧ (∀ h26 : Hp, h26 = wA h25 50 0 0 → (kT h26 v0 = 10 ∧ (∀ h27 : Hp, h27 = wR h26 v0 14 (some (kX h25)) → (kX h27 + 1 ≤ gB G + capC ∧ kS h27 + 0 ≤ capS ∧ (∀ h28 : Hp, h28 = wA h27 50 0 0 → (kT h28 v0 = 10 ∧ (∀ h29 : Hp, h29 = wR h28 v0 15 (some (kX h27)) → (kX h29 + 1 ≤ gB G + capC ∧ kS h29 + 0 ≤ capS ∧ (∀ h30 : Hp, h30 = wA h29 50 0 0 → (kT h30 v0 = 10 ∧ (∀ h31 : Hp, h31 = wR h30 v0 16 (some (kX h29)) → (kX h31 + 1 ≤ gB G + capC ∧ kS h31 + 0 ≤ capS ∧ (∀ h32 : Hp, h32 = wA h31 52 0 0 → (kT h32 v0 = 10 ∧ (∀ h33 : Hp, h33 = wR h32 v0 17 (some (kX h31)) → K none h33)))))))))))))))))))))))))))))))))))))))))))))))))))))))))))))))))) : X G M Q 0 [(0, .ref v0)] [] h := by
  refine x_aload_n hM d_Ki_init_0 rfl 0 rfl ?_
  refine x_objInit hG hM rfl w_320 w_22 w_objcode d_Ki_init_1 (Nat.le_of_ble_eq_true rfl) (Nat.le_of_ble_eq_true rfl) (Nat.le_of_ble_eq_true rfl) ?_
  refine x_aload_n hM d_Ki_init_4 rfl 0 rfl ?_
  refine x_iconst (v := 0) hM d_Ki_init_5 (by decide) ?_
  obtain ⟨c81, F⟩ := F
  obtain ⟨h1, eh1⟩ : ∃ z : Hp, z = wI h v0 0 0 := ⟨_, rfl⟩
  replace F := F h1 eh1
  refine x_puti hG hM ck_Ki 0 (Nat.le_of_ble_eq_true rfl) rfl rfl w_321 rfl d_Ki_init_6 (Or.inl rfl) c81 ?_
  rw [← eh1]
  clear eh1
  refine x_aload_n hM d_Ki_init_9 rfl 0 rfl ?_
  refine x_lconst (v := 0) hM d_Ki_init_10 (by decide) ?_
  obtain ⟨c80, F⟩ := F
  obtain ⟨h2, eh2⟩ : ∃ z : Hp, z = wL h1 v0 1 0 := ⟨_, rfl⟩
  replace F := F h2 eh2
  refine x_putl hG hM ck_Ki 1 (Nat.le_of_ble_eq_true rfl) rfl rfl w_323 rfl d_Ki_init_11 (Or.inl rfl) c80 ?_
  rw [← eh2]
  clear eh2
  refine x_aload_n hM d_Ki_init_14 rfl 0 rfl ?_
  refine x_iconst (v := 0) hM d_Ki_init_15 (by decide) ?_
  obtain ⟨c78, F⟩ := F
  obtain ⟨c79, F⟩ := F
  obtain ⟨h3, eh3⟩ : ∃ z : Hp, z = wA h2 50 0 0 := ⟨_, rfl⟩
  replace F := F h3 eh3
  refine x_newI hG hM (N := 0) w_63 d_Ki_init_16 (by decide) rfl c78 c79 ?_
  rw [← eh3]
  clear eh3
  obtain ⟨c77, F⟩ := F
  obtain ⟨h4, eh4⟩ : ∃ z : Hp, z = wR h3 v0 2 (some (kX h2)) := ⟨_, rfl⟩
  replace F := F h4 eh4
  refine x_putr hG hM ck_Ki 2 (Nat.le_of_ble_eq_true rfl) (Or.inr ⟨_, rfl⟩) rfl w_325 rfl d_Ki_init_18 (Or.inl rfl) c77 ?_
  rw [← eh4]
  clear eh4
  refine x_aload_n hM d_Ki_init_21 rfl 0 rfl ?_
  refine x_iconst (v := 0) hM d_Ki_init_22 (by decide) ?_
  obtain ⟨c75, F⟩ := F
  obtain ⟨c76, F⟩ := F
  obtain ⟨h5, eh5⟩ : ∃ z : Hp, z = wA h4 50 0 0 := ⟨_, rfl⟩
  replace F := F h5 eh5
  refine x_newI hG hM (N := 0) w_63 d_Ki_init_23 (by decide) rfl c75 c76 ?_
  rw [← eh5]
  clear eh5
  obtain ⟨c74, F⟩ := F
  obtain ⟨h6, eh6⟩ : ∃ z : Hp, z = wR h5 v0 3 (some (kX h4)) := ⟨_, rfl⟩
  replace F := F h6 eh6
  refine x_putr hG hM ck_Ki 3 (Nat.le_of_ble_eq_true rfl) (Or.inr ⟨_, rfl⟩) rfl w_327 rfl d_Ki_init_25 (Or.inl rfl) c74 ?_
  rw [← eh6]
  clear eh6
  refine x_aload_n hM d_Ki_init_28 rfl 0 rfl ?_
  refine x_iconst (v := 0) hM d_Ki_init_29 (by decide) ?_
  obtain ⟨c72, F⟩ := F
  obtain ⟨c73, F⟩ := F
  obtain ⟨h7, eh7⟩ : ∃ z : Hp, z = wA h6 50 0 0 := ⟨_, rfl⟩
  replace F := F h7 eh7
  refine x_newI hG hM (N := 0) w_63 d_Ki_init_30 (by decide) rfl c72 c73 ?_
  rw [← eh7]
  clear eh7
  obtain ⟨c71, F⟩ := F
  obtain ⟨h8, eh8⟩ : ∃ z : Hp, z = wR h7 v0 4 (some (kX h6)) := ⟨_, rfl⟩
  replace F := F h8 eh8
  refine x_putr hG hM ck_Ki 4 (Nat.le_of_ble_eq_true rfl) (Or.inr ⟨_, rfl⟩) rfl w_329 rfl d_Ki_init_32 (Or.inl rfl) c71 ?_
  rw [← eh8]
  clear eh8
  refine x_aload_n hM d_Ki_init_35 rfl 0 rfl ?_
  refine x_iconst (v := 0) hM d_Ki_init_36 (by decide) ?_
  obtain ⟨c69, F⟩ := F
  obtain ⟨c70, F⟩ := F
  obtain ⟨h9, eh9⟩ : ∃ z : Hp, z = wA h8 50 0 0 := ⟨_, rfl⟩
  replace F := F h9 eh9
  refine x_newI hG hM (N := 0) w_63 d_Ki_init_37 (by decide) rfl c69 c70 ?_
  rw [← eh9]
  clear eh9
  obtain ⟨c68, F⟩ := F
  obtain ⟨h10, eh10⟩ : ∃ z : Hp, z = wR h9 v0 5 (some (kX h8)) := ⟨_, rfl⟩
  replace F := F h10 eh10
  refine x_putr hG hM ck_Ki 5 (Nat.le_of_ble_eq_true rfl) (Or.inr ⟨_, rfl⟩) rfl w_330 rfl d_Ki_init_39 (Or.inl rfl) c68 ?_
  rw [← eh10]
  clear eh10
  refine x_aload_n hM d_Ki_init_42 rfl 0 rfl ?_
  refine x_iconst (v := 0) hM d_Ki_init_43 (by decide) ?_
  obtain ⟨c66, F⟩ := F
  obtain ⟨c67, F⟩ := F
  obtain ⟨h11, eh11⟩ : ∃ z : Hp, z = wA h10 50 0 0 := ⟨_, rfl⟩
  replace F := F h11 eh11
  refine x_newI hG hM (N := 0) w_63 d_Ki_init_44 (by decide) rfl c66 c67 ?_
  rw [← eh11]
  clear eh11
  obtain ⟨c65, F⟩ := F
  obtain ⟨h12, eh12⟩ : ∃ z : Hp, z = wR h11 v0 6 (some (kX h10)) := ⟨_, rfl⟩
  replace F := F h12 eh12
  refine x_putr hG hM ck_Ki 6 (Nat.le_of_ble_eq_true rfl) (Or.inr ⟨_, rfl⟩) rfl w_331 rfl d_Ki_init_46 (Or.inl rfl) c65 ?_
  rw [← eh12]
  clear eh12
  refine x_aload_n hM d_Ki_init_49 rfl 0 rfl ?_
  refine x_iconst (v := 0) hM d_Ki_init_50 (by decide) ?_
  obtain ⟨c63, F⟩ := F
  obtain ⟨c64, F⟩ := F
  obtain ⟨h13, eh13⟩ : ∃ z : Hp, z = wA h12 50 0 0 := ⟨_, rfl⟩
  replace F := F h13 eh13
  refine x_newI hG hM (N := 0) w_63 d_Ki_init_51 (by decide) rfl c63 c64 ?_
  rw [← eh13]
  clear eh13
  obtain ⟨c62, F⟩ := F
  obtain ⟨h14, eh14⟩ : ∃ z : Hp, z = wR h13 v0 7 (some (kX h12)) := ⟨_, rfl⟩
  replace F := F h14 eh14
  refine x_putr hG hM ck_Ki 7 (Nat.le_of_ble_eq_true rfl) (Or.inr ⟨_, rfl⟩) rfl w_332 rfl d_Ki_init_53 (Or.inl rfl) c62 ?_
  rw [← eh14]
  clear eh14
  refine x_aload_n hM d_Ki_init_56 rfl 0 rfl ?_
  refine x_iconst (v := 0) hM d_Ki_init_57 (by decide) ?_
  obtain ⟨c60, F⟩ := F
  obtain ⟨c61, F⟩ := F
  obtain ⟨h15, eh15⟩ : ∃ z : Hp, z = wA h14 50 0 0 := ⟨_, rfl⟩
  replace F := F h15 eh15
  refine x_newI hG hM (N := 0) w_63 d_Ki_init_58 (by decide) rfl c60 c61 ?_
  rw [← eh15]
  clear eh15
  obtain ⟨c59, F⟩ := F
  obtain ⟨h16, eh16⟩ : ∃ z : Hp, z = wR h15 v0 8 (some (kX h14)) := ⟨_, rfl⟩
  replace F := F h16 eh16
  refine x_putr hG hM ck_Ki 8 (Nat.le_of_ble_eq_true rfl) (Or.inr ⟨_, rfl⟩) rfl w_333 rfl d_Ki_init_60 (Or.inl rfl) c59 ?_
  rw [← eh16]
  clear eh16
  refine x_aload_n hM d_Ki_init_63 rfl 0 rfl ?_
  refine x_iconst (v := 0) hM d_Ki_init_64 (by decide) ?_
  obtain ⟨c57, F⟩ := F
  obtain ⟨c58, F⟩ := F
  obtain ⟨h17, eh17⟩ : ∃ z : Hp, z = wA h16 50 0 0 := ⟨_, rfl⟩
  replace F := F h17 eh17
  refine x_newI hG hM (N := 0) w_63 d_Ki_init_65 (by decide) rfl c57 c58 ?_
  rw [← eh17]
  clear eh17
  obtain ⟨c56, F⟩ := F
  obtain ⟨h18, eh18⟩ : ∃ z : Hp, z = wR h17 v0 9 (some (kX h16)) := ⟨_, rfl⟩
  replace F := F h18 eh18
  refine x_putr hG hM ck_Ki 9 (Nat.le_of_ble_eq_true rfl) (Or.inr ⟨_, rfl⟩) rfl w_334 rfl d_Ki_init_67 (Or.inl rfl) c56 ?_
  rw [← eh18]
  clear eh18
  refine x_aload_n hM d_Ki_init_70 rfl 0 rfl ?_
  refine x_iconst (v := 0) hM d_Ki_init_71 (by decide) ?_
  obtain ⟨c54, F⟩ := F
  obtain ⟨c55, F⟩ := F
  obtain ⟨h19, eh19⟩ : ∃ z : Hp, z = wA h18 50 0 0 := ⟨_, rfl⟩
  replace F := F h19 eh19
  refine x_newI hG hM (N := 0) w_63 d_Ki_init_72 (by decide) rfl c54 c55 ?_
  rw [← eh19]
  clear eh19
  obtain ⟨c53, F⟩ := F
  obtain ⟨h20, eh20⟩ : ∃ z : Hp, z = wR h19 v0 10 (some (kX h18)) := ⟨_, rfl⟩
  replace F := F h20 eh20
  refine x_putr hG hM ck_Ki 10 (Nat.le_of_ble_eq_true rfl) (Or.inr ⟨_, rfl⟩) rfl w_335 rfl d_Ki_init_74 (Or.inl rfl) c53 ?_
  rw [← eh20]
  clear eh20
  refine x_aload_n hM d_Ki_init_77 rfl 0 rfl ?_
  refine x_iconst (v := 0) hM d_Ki_init_78 (by decide) ?_
  obtain ⟨c52, F⟩ := F
  obtain ⟨h21, eh21⟩ : ∃ z : Hp, z = wI h20 v0 11 0 := ⟨_, rfl⟩
  replace F := F h21 eh21
  refine x_puti hG hM ck_Ki 11 (Nat.le_of_ble_eq_true rfl) rfl rfl w_336 rfl d_Ki_init_79 (Or.inl rfl) c52 ?_
  rw [← eh21]
  clear eh21
  refine x_aload_n hM d_Ki_init_82 rfl 0 rfl ?_
  refine x_iconst (v := 0) hM d_Ki_init_83 (by decide) ?_
  obtain ⟨c50, F⟩ := F
  obtain ⟨c51, F⟩ := F
  obtain ⟨h22, eh22⟩ : ∃ z : Hp, z = wA h21 50 0 0 := ⟨_, rfl⟩
  replace F := F h22 eh22
  refine x_newI hG hM (N := 0) w_63 d_Ki_init_84 (by decide) rfl c50 c51 ?_
  rw [← eh22]
  clear eh22
  obtain ⟨c49, F⟩ := F
  obtain ⟨h23, eh23⟩ : ∃ z : Hp, z = wR h22 v0 12 (some (kX h21)) := ⟨_, rfl⟩
  replace F := F h23 eh23
  refine x_putr hG hM ck_Ki 12 (Nat.le_of_ble_eq_true rfl) (Or.inr ⟨_, rfl⟩) rfl w_337 rfl d_Ki_init_86 (Or.inl rfl) c49 ?_
  rw [← eh23]
  clear eh23
  refine x_aload_n hM d_Ki_init_89 rfl 0 rfl ?_
  refine x_iconst (v := 0) hM d_Ki_init_90 (by decide) ?_
  obtain ⟨c47, F⟩ := F
  obtain ⟨c48, F⟩ := F
  obtain ⟨h24, eh24⟩ : ∃ z : Hp, z = wA h23 50 0 0 := ⟨_, rfl⟩
  replace F := F h24 eh24
  refine x_newI hG hM (N := 0) w_63 d_Ki_init_91 (by decide) rfl c47 c48 ?_
  rw [← eh24]
  clear eh24
  obtain ⟨c46, F⟩ := F
  obtain ⟨h25, eh25⟩ : ∃ z : Hp, z = wR h24 v0 13 (some (kX h23)) := ⟨_, rfl⟩
  replace F := F h25 eh25
  refine x_putr hG hM ck_Ki 13 (Nat.le_of_ble_eq_true rfl) (Or.inr ⟨_, rfl⟩) rfl w_338 rfl d_Ki_init_93 (Or.inl rfl) c46 ?_
  rw [← eh25]
  clear eh25
  refine x_aload_n hM d_Ki_init_96 rfl 0 rfl ?_
  refine x_iconst (v := 0) hM d_Ki_init_97 (by decide) ?_
  obtain ⟨c44, F⟩ := F
  obtain ⟨c45, F⟩ := F
  obtain ⟨h26, eh26⟩ : ∃ z : Hp, z = wA h25 50 0 0 := ⟨_, rfl⟩
  replace F := F h26 eh26
  refine x_newI hG hM (N := 0) w_63 d_Ki_init_98 (by decide) rfl c44 c45 ?_
  rw [← eh26]
  clear eh26
  obtain ⟨c43, F⟩ := F
  obtain ⟨h27, eh27⟩ : ∃ z : Hp, z = wR h26 v0 14 (some (kX h25)) := ⟨_, rfl⟩
  replace F := F h27 eh27
  refine x_putr hG hM ck_Ki 14 (Nat.le_of_ble_eq_true rfl) (Or.inr ⟨_, rfl⟩) rfl w_339 rfl d_Ki_init_100 (Or.inl rfl) c43 ?_
  rw [← eh27]
  clear eh27
  refine x_aload_n hM d_Ki_init_103 rfl 0 rfl ?_
  refine x_iconst (v := 0) hM d_Ki_init_104 (by decide) ?_
  obtain ⟨c41, F⟩ := F
  obtain ⟨c42, F⟩ := F
  obtain ⟨h28, eh28⟩ : ∃ z : Hp, z = wA h27 50 0 0 := ⟨_, rfl⟩
  replace F := F h28 eh28
  refine x_newI hG hM (N := 0) w_63 d_Ki_init_105 (by decide) rfl c41 c42 ?_
  rw [← eh28]
  clear eh28
  obtain ⟨c40, F⟩ := F
  obtain ⟨h29, eh29⟩ : ∃ z : Hp, z = wR h28 v0 15 (some (kX h27)) := ⟨_, rfl⟩
  replace F := F h29 eh29
  refine x_putr hG hM ck_Ki 15 (Nat.le_of_ble_eq_true rfl) (Or.inr ⟨_, rfl⟩) rfl w_340 rfl d_Ki_init_107 (Or.inl rfl) c40 ?_
  rw [← eh29]
  clear eh29
  refine x_aload_n hM d_Ki_init_110 rfl 0 rfl ?_
  refine x_iconst (v := 0) hM d_Ki_init_111 (by decide) ?_
  obtain ⟨c38, F⟩ := F
  obtain ⟨c39, F⟩ := F
  obtain ⟨h30, eh30⟩ : ∃ z : Hp, z = wA h29 50 0 0 := ⟨_, rfl⟩
  replace F := F h30 eh30
  refine x_newI hG hM (N := 0) w_63 d_Ki_init_112 (by decide) rfl c38 c39 ?_
  rw [← eh30]
  clear eh30
  obtain ⟨c37, F⟩ := F
  obtain ⟨h31, eh31⟩ : ∃ z : Hp, z = wR h30 v0 16 (some (kX h29)) := ⟨_, rfl⟩
  replace F := F h31 eh31
  refine x_putr hG hM ck_Ki 16 (Nat.le_of_ble_eq_true rfl) (Or.inr ⟨_, rfl⟩) rfl w_341 rfl d_Ki_init_114 (Or.inl rfl) c37 ?_
  rw [← eh31]
  clear eh31
  refine x_aload_n hM d_Ki_init_117 rfl 0 rfl ?_
  refine x_iconst (v := 0) hM d_Ki_init_118 (by decide) ?_
  obtain ⟨c35, F⟩ := F
  obtain ⟨c36, F⟩ := F
  obtain ⟨h32, eh32⟩ : ∃ z : Hp, z = wA h31 52 0 0 := ⟨_, rfl⟩
  replace F := F h32 eh32
  refine x_newL hG hM (N := 0) w_276 d_Ki_init_119 (by decide) rfl c35 c36 ?_
  rw [← eh32]
  clear eh32
  obtain ⟨c34, F⟩ := F
  obtain ⟨h33, eh33⟩ : ∃ z : Hp, z = wR h32 v0 17 (some (kX h31)) := ⟨_, rfl⟩
  replace F := F h33 eh33
  refine x_putr hG hM ck_Ki 17 (Nat.le_of_ble_eq_true rfl) (Or.inr ⟨_, rfl⟩) rfl w_342 rfl d_Ki_init_121 (Or.inl rfl) c34 ?_
  rw [← eh33]
  clear eh33
  exact x_return hM d_Ki_init_124 rfl F
theorem d_Ki_split_0 : decode b_Ki_split 0 = .ok (.aload_n 0, 1) := by decide +kernel
theorem d_Ki_split_1 : decode b_Ki_split 1 = .ok (.aload_n 1, 1) := by decide +kernel
theorem d_Ki_split_2 : decode b_Ki_split 2 = .ok (.getfield 69, 3) := by decide +kernel
theorem d_Ki_split_5 : decode b_Ki_split 5 = .ok (.invokevirtual 74, 3) := by decide +kernel
theorem d_Ki_split_8 : decode b_Ki_split 8 = .ok (.aload_n 0, 1) := by decide +kernel
theorem d_Ki_split_9 : decode b_Ki_split 9 = .ok (.iconst 0, 1) := by decide +kernel
theorem d_Ki_split_10 : decode b_Ki_split 10 = .ok (.putfield 9, 3) := by decide +kernel
theorem d_Ki_split_13 : decode b_Ki_split 13 = .ok (.aload_n 0, 1) := by decide +kernel
theorem d_Ki_split_14 : decode b_Ki_split 14 = .ok (.iconst 0, 1) := by decide +kernel
theorem d_Ki_split_15 : decode b_Ki_split 15 = .ok (.putfield 47, 3) := by decide +kernel
theorem d_Ki_split_18 : decode b_Ki_split 18 = .ok (.aload_n 0, 1) := by decide +kernel
theorem d_Ki_split_19 : decode b_Ki_split 19 = .ok (.aload_n 1, 1) := by decide +kernel
theorem d_Ki_split_20 : decode b_Ki_split 20 = .ok (.aload_n 2, 1) := by decide +kernel
theorem d_Ki_split_21 : decode b_Ki_split 21 = .ok (.iconst 1, 1) := by decide +kernel
theorem d_Ki_split_22 : decode b_Ki_split 22 = .ok (.iconst 0, 1) := by decide +kernel
theorem d_Ki_split_23 : decode b_Ki_split 23 = .ok (.invokevirtual 78, 3) := by decide +kernel
theorem d_Ki_split_26 : decode b_Ki_split 26 = .ok (.istore_n 3, 1) := by decide +kernel
theorem d_Ki_split_27 : decode b_Ki_split 27 = .ok (.aload_n 0, 1) := by decide +kernel
theorem d_Ki_split_28 : decode b_Ki_split 28 = .ok (.aload_n 1, 1) := by decide +kernel
theorem d_Ki_split_29 : decode b_Ki_split 29 = .ok (.aload_n 2, 1) := by decide +kernel
theorem d_Ki_split_30 : decode b_Ki_split 30 = .ok (.iconst 0, 1) := by decide +kernel
theorem d_Ki_split_31 : decode b_Ki_split 31 = .ok (.iload_n 3, 1) := by decide +kernel
theorem d_Ki_split_32 : decode b_Ki_split 32 = .ok (.invokevirtual 78, 3) := by decide +kernel
theorem d_Ki_split_35 : decode b_Ki_split 35 = .ok (.pop, 1) := by decide +kernel
theorem d_Ki_split_36 : decode b_Ki_split 36 = .ok (.iconst 0, 1) := by decide +kernel
theorem d_Ki_split_37 : decode b_Ki_split 37 = .ok (.istore 4, 2) := by decide +kernel
theorem d_Ki_split_39 : decode b_Ki_split 39 = .ok (.iload 4, 2) := by decide +kernel
theorem d_Ki_split_41 : decode b_Ki_split 41 = .ok (.ldc 82, 2) := by decide +kernel
theorem d_Ki_split_43 : decode b_Ki_split 43 = .ok (.if_icmp .ge 40, 3) := by decide +kernel
theorem d_Ki_split_46 : decode b_Ki_split 46 = .ok (.aload_n 0, 1) := by decide +kernel
theorem d_Ki_split_47 : decode b_Ki_split 47 = .ok (.getfield 47, 3) := by decide +kernel
theorem d_Ki_split_50 : decode b_Ki_split 50 = .ok (.ifCond .le 33, 3) := by decide +kernel
theorem d_Ki_split_53 : decode b_Ki_split 53 = .ok (.aload_n 0, 1) := by decide +kernel
theorem d_Ki_split_54 : decode b_Ki_split 54 = .ok (.dup, 1) := by decide +kernel
theorem d_Ki_split_55 : decode b_Ki_split 55 = .ok (.getfield 47, 3) := by decide +kernel
theorem d_Ki_split_58 : decode b_Ki_split 58 = .ok (.iconst 1, 1) := by decide +kernel
theorem d_Ki_split_59 : decode b_Ki_split 59 = .ok (.isub, 1) := by decide +kernel
theorem d_Ki_split_60 : decode b_Ki_split 60 = .ok (.putfield 47, 3) := by decide +kernel
theorem d_Ki_split_63 : decode b_Ki_split 63 = .ok (.aload_n 0, 1) := by decide +kernel
theorem d_Ki_split_64 : decode b_Ki_split 64 = .ok (.aload_n 1, 1) := by decide +kernel
theorem d_Ki_split_65 : decode b_Ki_split 65 = .ok (.aload_n 0, 1) := by decide +kernel
theorem d_Ki_split_66 : decode b_Ki_split 66 = .ok (.getfield 44, 3) := by decide +kernel
theorem d_Ki_split_69 : decode b_Ki_split 69 = .ok (.aload_n 0, 1) := by decide +kernel
theorem d_Ki_split_70 : decode b_Ki_split 70 = .ok (.getfield 47, 3) := by decide +kernel
theorem d_Ki_split_73 : decode b_Ki_split 73 = .ok (.iaload, 1) := by decide +kernel
theorem d_Ki_split_74 : decode b_Ki_split 74 = .ok (.invokevirtual 83, 3) := by decide +kernel
theorem d_Ki_split_77 : decode b_Ki_split 77 = .ok (.iinc 4 1, 3) := by decide +kernel
theorem d_Ki_split_80 : decode b_Ki_split 80 = .ok (.goto (-41), 3) := by decide +kernel
theorem d_Ki_split_83 : decode b_Ki_split 83 = .ok (.aload_n 0, 1) := by decide +kernel
theorem d_Ki_split_84 : decode b_Ki_split 84 = .ok (.aload_n 1, 1) := by decide +kernel
theorem d_Ki_split_85 : decode b_Ki_split 85 = .ok (.getfield 69, 3) := by decide +kernel
theorem d_Ki_split_88 : decode b_Ki_split 88 = .ok (.invokevirtual 87, 3) := by decide +kernel
theorem d_Ki_split_91 : decode b_Ki_split 91 = .ok (.return_, 1) := by decide +kernel
set_option maxRecDepth 100000 in
set_option maxHeartbeats 4000000 in
theorem S_Ki_split_0 {G : Gc} {M : Mc} {Q : State → Prop} {K : Option Value → Hp → Prop} (hG : gok G) (hM : mok G M r_Ki_split Q K) (v0 : Nat) (v1 : Nat) (v2 : Nat) (h : Hp) (F : kT h v1 = 2 ∧ (kT h v0 = 10 ∧ sem G r_Ki_makeRoom [.ref v0, .int (kI h v1 1)] h (fun u2 h1 => u2 = none ∧ (kT h1 v0 = 10 ∧ (∀ h3 : Hp, h3 = wI h1 v0 0 0 → (kT h3 v0 = 10 ∧ (∀ h4 : Hp, h4 = wI h3 v0 11 0 → (kT h4 v0 = 10 ∧ sem G r_Ki_placeThose [.ref v0, .ref v1, .ref v2, .int 1, .int 0] h4 (fun u6 h5 => ∃ x7 : Int32, u6 = some (.int x7) ∧ (kT h5 v0 = 10 ∧ sem G r_Ki_placeThose [.ref v0, .ref v1, .ref v2, .int 0, .int x7] h5 (fun u9 h8 => ∃ x10 : Int32, u9 = some (.int x10) ∧ X G M Q 39 [(0, .ref v0), (1, .ref v1), (4, .int 0)] [] h8))))))))))) : X G M Q 0 [(0, .ref v0), (1, .ref v1), (2, .ref v2)] [] h := by
  refine x_aload_n hM d_Ki_split_0 rfl 0 rfl ?_
  refine x_aload_n hM d_Ki_split_1 rfl 1 rfl ?_
  obtain ⟨c16, F⟩ := F
  refine x_geti hG hM ck_Wo 1 (Nat.le_of_ble_eq_true rfl) rfl rfl w_126 rfl d_Ki_split_2 c16 ?_
  obtain ⟨c15, F⟩ := F
  refine x_callV hG hM (r' := r_Ki_makeRoom) (ci := 9) [.int (kI h v1 1)] rfl rfl (Nat.le_of_ble_eq_true rfl) yk_Ki_makeRoom ⟨Nat.le_of_ble_eq_true rfl, Nat.le_of_ble_eq_true rfl⟩ w_702 w_704 ws_Ki_makeRoom rfl rfl (Nat.le_of_ble_eq_true rfl) d_Ki_split_5 c15 (sem_mono F ?_)
  intro u2 h1 F
  obtain ⟨rfl, F⟩ := F
  refine x_aload_n hM d_Ki_split_8 rfl 0 rfl ?_
  refine x_iconst (v := 0) hM d_Ki_split_9 (by decide) ?_
  obtain ⟨c14, F⟩ := F
  obtain ⟨h3, eh3⟩ : ∃ z : Hp, z = wI h1 v0 0 0 := ⟨_, rfl⟩
  replace F := F h3 eh3
  refine x_puti hG hM ck_Ki 0 (Nat.le_of_ble_eq_true rfl) rfl rfl w_321 rfl d_Ki_split_10 (Or.inl rfl) c14 ?_
  rw [← eh3]
  clear eh3
  refine x_aload_n hM d_Ki_split_13 rfl 0 rfl ?_
  refine x_iconst (v := 0) hM d_Ki_split_14 (by decide) ?_
  obtain ⟨c13, F⟩ := F
  obtain ⟨h4, eh4⟩ : ∃ z : Hp, z = wI h3 v0 11 0 := ⟨_, rfl⟩
  replace F := F h4 eh4
  refine x_puti hG hM ck_Ki 11 (Nat.le_of_ble_eq_true rfl) rfl rfl w_336 rfl d_Ki_split_15 (Or.inl rfl) c13 ?_
  rw [← eh4]
  clear eh4
  refine x_aload_n hM d_Ki_split_18 rfl 0 rfl ?_
  refine x_aload_n hM d_Ki_split_19 rfl 1 rfl ?_
  refine x_aload_n hM d_Ki_split_20 rfl 2 rfl ?_
  refine x_iconst (v := 1) hM d_Ki_split_21 (by decide) ?_
  refine x_iconst (v := 0) hM d_Ki_split_22 (by decide) ?_
  obtain ⟨c12, F⟩ := F
  refine x_callV hG hM (r' := r_Ki_placeThose) (ci := 9) [.ref v1, .ref v2, .int 1, .int 0] rfl rfl (Nat.le_of_ble_eq_true rfl) yk_Ki_placeThose ⟨Nat.le_of_ble_eq_true rfl, Nat.le_of_ble_eq_true rfl⟩ w_707 w_709 ws_Ki_placeThose rfl rfl (Nat.le_of_ble_eq_true rfl) d_Ki_split_23 c12 (sem_mono F ?_)
  intro u6 h5 F
  obtain ⟨x7, rfl, F⟩ := F
  refine x_istore_n (lv2 := [(3, .int x7), (0, .ref v0), (1, .ref v1), (2, .ref v2)]) hM d_Ki_split_26 rfl (Nat.le_of_ble_eq_true rfl) rfl ?_
  refine x_aload_n hM d_Ki_split_27 rfl 1 rfl ?_
  refine x_aload_n hM d_Ki_split_28 rfl 2 rfl ?_
  refine x_aload_n hM d_Ki_split_29 rfl 3 rfl ?_
  refine x_iconst (v := 0) hM d_Ki_split_30 (by decide) ?_
  refine x_iload_n hM d_Ki_split_31 rfl 0 rfl ?_
  obtain ⟨c11, F⟩ := F
  refine x_callV hG hM (r' := r_Ki_placeThose) (ci := 9) [.ref v1, .ref v2, .int 0, .int x7] rfl rfl (Nat.le_of_ble_eq_true rfl) yk_Ki_placeThose ⟨Nat.le_of_ble_eq_true rfl, Nat.le_of_ble_eq_true rfl⟩ w_707 w_709 ws_Ki_placeThose rfl rfl (Nat.le_of_ble_eq_true rfl) d_Ki_split_32 c11 (sem_mono F ?_)
  intro u9 h8 F
  obtain ⟨x10, rfl, F⟩ := F
  refine x_pop hM d_Ki_split_35 rfl ?_
  refine x_iconst (v := 0) hM d_Ki_split_36 (by decide) ?_
  refine x_istore (lv2 := [(4, .int 0), (3, .int x7), (0, .ref v0), (1, .ref v1), (2, .ref v2)]) hM d_Ki_split_37 (Nat.le_of_ble_eq_true rfl) rfl ?_
  refine x_sub [2, 3, 0] rfl ?_
  exact F
set_option maxRecDepth 100000 in
set_option maxHeartbeats 4000000 in
theorem S_Ki_split_39 {G : Gc} {M : Mc} {Q : State → Prop} {K : Option Value → Hp → Prop} (hG : gok G) (hM : mok G M r_Ki_split Q K) (v0 : Nat) (v1 : Nat) (v4 : Int32) (h : Hp) (F : (8000000 ≤ v4 → (kT h v1 = 2 ∧ (kT h v0 = 10 ∧ sem G r_Ki_findLeast [.ref v0, .int (kI h v1 1)] h (fun u2 h1 => u2 = none ∧ K none h1)))) ∧ (¬ 8000000 ≤ v4 → (kT h v0 = 10 ∧ (((kI h v0 11) ≤ 0 → (kT h v1 = 2 ∧ (kT h v0 = 10 ∧ sem G r_Ki_findLeast [.ref v0, .int (kI h v1 1)] h (fun u6 h5 => u6 = none ∧ K none h5)))) ∧ (¬ (kI h v0 11) ≤ 0 → (kT h v0 = 10 ∧ (kT h v0 = 10 ∧ (∀ h9 : Hp, h9 = wI h v0 11 ((kI h v0 11) - 1) → (kT h9 v0 = 10 ∧ kR h9 v0 10 = some (rf h9 v0 10) ∧ (kT h9 v0 = 10 ∧ (kT h9 (rf h9 v0 10) = 50 ∧ vp_in (kI h9 v0 11) (kN h9 (rf h9 v0 10)) ∧ (kT h9 v0 = 10 ∧ sem G r_Ki_settle [.ref v0, .ref v1, .int (kI h9 (rf h9 v0 10) (Int32.toNatClampNeg (kI h9 v0 11)))] h9 (fun u11 h10 => u11 = none ∧ X G M Q 39 [(0, .ref v0), (1, .ref v1), (4, .int (v4 + 1))] [] h10))))))))))))) : X G M Q 39 [(0, .ref v0), (1, .ref v1), (4, .int v4)] [] h := by
  refine x_iload hM d_Ki_split_39 2 rfl ?_
  refine x_ldc hG hM rfl w_715 d_Ki_split_41 ?_
  refine x_icmp_ge (tgt := 83) hM d_Ki_split_43 (by decide) (fun q22 => ?_) (fun q22 => ?_)
  · replace F := F.1 q22
    refine x_aload_n hM d_Ki_split_83 rfl 0 rfl ?_
    refine x_aload_n hM d_Ki_split_84 rfl 1 rfl ?_
    obtain ⟨c4, F⟩ := F
    refine x_geti hG hM ck_Wo 1 (Nat.le_of_ble_eq_true rfl) rfl rfl w_126 rfl d_Ki_split_85 c4 ?_
    obtain ⟨c3, F⟩ := F
    refine x_callV hG hM (r' := r_Ki_findLeast) (ci := 9) [.int (kI h v1 1)] rfl rfl (Nat.le_of_ble_eq_true rfl) yk_Ki_findLeast ⟨Nat.le_of_ble_eq_true rfl, Nat.le_of_ble_eq_true rfl⟩ w_764 w_766 ws_Ki_findLeast rfl rfl (Nat.le_of_ble_eq_true rfl) d_Ki_split_88 c3 (sem_mono F ?_)
    intro u2 h1 F
    obtain ⟨rfl, F⟩ := F
    exact x_return hM d_Ki_split_91 rfl F
  · replace F := F.2 q22
    refine x_aload_n hM d_Ki_split_46 rfl 0 rfl ?_
    obtain ⟨c21, F⟩ := F
    refine x_geti hG hM ck_Ki 11 (Nat.le_of_ble_eq_true rfl) rfl rfl w_336 rfl d_Ki_split_47 c21 ?_
    refine x_if_le (tgt := 83) hM d_Ki_split_50 (by decide) (fun q20 => ?_) (fun q20 => ?_)
    · replace F := F.1 q20
      refine x_aload_n hM d_Ki_split_83 rfl 0 rfl ?_
      refine x_aload_n hM d_Ki_split_84 rfl 1 rfl ?_
      obtain ⟨c8, F⟩ := F
      refine x_geti hG hM ck_Wo 1 (Nat.le_of_ble_eq_true rfl) rfl rfl w_126 rfl d_Ki_split_85 c8 ?_
      obtain ⟨c7, F⟩ := F
      refine x_callV hG hM (r' := r_Ki_findLeast) (ci := 9) [.int (kI h v1 1)] rfl rfl (Nat.le_of_ble_eq_true rfl) yk_Ki_findLeast ⟨Nat.le_of_ble_eq_true rfl, Nat.le_of_ble_eq_true rfl⟩ w_764 w_766 ws_Ki_findLeast rfl rfl (Nat.le_of_ble_eq_true rfl) d_Ki_split_88 c7 (sem_mono F ?_)
      intro u6 h5 F
      obtain ⟨rfl, F⟩ := F
      exact x_return hM d_Ki_split_91 rfl F
    · replace F := F.2 q20
      refine x_aload_n hM d_Ki_split_53 rfl 0 rfl ?_
      refine x_dup hM d_Ki_split_54 rfl ?_
      obtain ⟨c19, F⟩ := F
      refine x_geti hG hM ck_Ki 11 (Nat.le_of_ble_eq_true rfl) rfl rfl w_336 rfl d_Ki_split_55 c19 ?_
      refine x_iconst (v := 1) hM d_Ki_split_58 (by decide) ?_
      refine x_isub hM d_Ki_split_59 ?_
      obtain ⟨c18, F⟩ := F
      obtain ⟨h9, eh9⟩ : ∃ z : Hp, z = wI h v0 11 ((kI h v0 11) - 1) := ⟨_, rfl⟩
      replace F := F h9 eh9
      refine x_puti hG hM ck_Ki 11 (Nat.le_of_ble_eq_true rfl) rfl rfl w_336 rfl d_Ki_split_60 (Or.inl rfl) c18 ?_
      rw [← eh9]
      clear eh9
      refine x_aload_n hM d_Ki_split_63 rfl 0 rfl ?_
      refine x_aload_n hM d_Ki_split_64 rfl 1 rfl ?_
      refine x_aload_n hM d_Ki_split_65 rfl 0 rfl ?_
      obtain ⟨c16, F⟩ := F
      obtain ⟨c17, F⟩ := F
      refine x_getr hG hM ck_Ki 10 (Nat.le_of_ble_eq_true rfl) rfl rfl w_335 rfl d_Ki_split_66 c16 c17 ?_
      refine x_aload_n hM d_Ki_split_69 rfl 0 rfl ?_
      obtain ⟨c15, F⟩ := F
      refine x_geti hG hM ck_Ki 11 (Nat.le_of_ble_eq_true rfl) rfl rfl w_336 rfl d_Ki_split_70 c15 ?_
      obtain ⟨c13, F⟩ := F
      obtain ⟨c14, F⟩ := F
      refine x_iaload hG hM d_Ki_split_73 c13 c14 ?_
      obtain ⟨c12, F⟩ := F
      refine x_callV hG hM (r' := r_Ki_settle) (ci := 9) [.ref v1, .int (kI h9 (rf h9 v0 10) (Int32.toNatClampNeg (kI h9 v0 11)))] rfl rfl (Nat.le_of_ble_eq_true rfl) yk_Ki_settle ⟨Nat.le_of_ble_eq_true rfl, Nat.le_of_ble_eq_true rfl⟩ w_716 w_718 ws_Ki_settle rfl rfl (Nat.le_of_ble_eq_true rfl) d_Ki_split_74 c12 (sem_mono F ?_)
      intro u11 h10 F
      obtain ⟨rfl, F⟩ := F
      refine x_iinc (v := (v4 + 1)) (lv2 := [(4, .int (v4 + 1)), (0, .ref v0), (1, .ref v1)]) hM d_Ki_split_77 (j := 2) rfl rfl (Nat.le_of_ble_eq_true rfl) rfl ?_
      refine x_goto (tgt := 39) hM d_Ki_split_80 (by decide) ?_
      refine x_sub [1, 2, 0] rfl ?_
      exact F
theorem d_Ki_makeRoom_0 : decode b_Ki_makeRoom 0 = .ok (.aload_n 0, 1) := by decide +kernel
theorem d_Ki_makeRoom_1 : decode b_Ki_makeRoom 1 = .ok (.getfield 19, 3) := by decide +kernel
theorem d_Ki_makeRoom_4 : decode b_Ki_makeRoom 4 = .ok (.arraylength, 1) := by decide +kernel
theorem d_Ki_makeRoom_5 : decode b_Ki_makeRoom 5 = .ok (.iload_n 1, 1) := by decide +kernel
theorem d_Ki_makeRoom_6 : decode b_Ki_makeRoom 6 = .ok (.if_icmp .lt 4, 3) := by decide +kernel
theorem d_Ki_makeRoom_9 : decode b_Ki_makeRoom 9 = .ok (.return_, 1) := by decide +kernel
theorem d_Ki_makeRoom_10 : decode b_Ki_makeRoom 10 = .ok (.iload_n 1, 1) := by decide +kernel
theorem d_Ki_makeRoom_11 : decode b_Ki_makeRoom 11 = .ok (.invokestatic 90, 3) := by decide +kernel
theorem d_Ki_makeRoom_14 : decode b_Ki_makeRoom 14 = .ok (.istore_n 2, 1) := by decide +kernel
theorem d_Ki_makeRoom_15 : decode b_Ki_makeRoom 15 = .ok (.aload_n 0, 1) := by decide +kernel
theorem d_Ki_makeRoom_16 : decode b_Ki_makeRoom 16 = .ok (.iload_n 2, 1) := by decide +kernel
theorem d_Ki_makeRoom_17 : decode b_Ki_makeRoom 17 = .ok (.newarray .int, 2) := by decide +kernel
theorem d_Ki_makeRoom_19 : decode b_Ki_makeRoom 19 = .ok (.putfield 19, 3) := by decide +kernel
theorem d_Ki_makeRoom_22 : decode b_Ki_makeRoom 22 = .ok (.aload_n 0, 1) := by decide +kernel
theorem d_Ki_makeRoom_23 : decode b_Ki_makeRoom 23 = .ok (.iload_n 2, 1) := by decide +kernel
theorem d_Ki_makeRoom_24 : decode b_Ki_makeRoom 24 = .ok (.newarray .int, 2) := by decide +kernel
theorem d_Ki_makeRoom_26 : decode b_Ki_makeRoom 26 = .ok (.putfield 23, 3) := by decide +kernel
theorem d_Ki_makeRoom_29 : decode b_Ki_makeRoom 29 = .ok (.aload_n 0, 1) := by decide +kernel
theorem d_Ki_makeRoom_30 : decode b_Ki_makeRoom 30 = .ok (.iload_n 2, 1) := by decide +kernel
theorem d_Ki_makeRoom_31 : decode b_Ki_makeRoom 31 = .ok (.newarray .int, 2) := by decide +kernel
theorem d_Ki_makeRoom_33 : decode b_Ki_makeRoom 33 = .ok (.putfield 26, 3) := by decide +kernel
theorem d_Ki_makeRoom_36 : decode b_Ki_makeRoom 36 = .ok (.aload_n 0, 1) := by decide +kernel
theorem d_Ki_makeRoom_37 : decode b_Ki_makeRoom 37 = .ok (.iload_n 2, 1) := by decide +kernel
theorem d_Ki_makeRoom_38 : decode b_Ki_makeRoom 38 = .ok (.newarray .int, 2) := by decide +kernel
theorem d_Ki_makeRoom_40 : decode b_Ki_makeRoom 40 = .ok (.putfield 29, 3) := by decide +kernel
theorem d_Ki_makeRoom_43 : decode b_Ki_makeRoom 43 = .ok (.aload_n 0, 1) := by decide +kernel
theorem d_Ki_makeRoom_44 : decode b_Ki_makeRoom 44 = .ok (.iload_n 2, 1) := by decide +kernel
theorem d_Ki_makeRoom_45 : decode b_Ki_makeRoom 45 = .ok (.newarray .int, 2) := by decide +kernel
theorem d_Ki_makeRoom_47 : decode b_Ki_makeRoom 47 = .ok (.putfield 32, 3) := by decide +kernel
theorem d_Ki_makeRoom_50 : decode b_Ki_makeRoom 50 = .ok (.aload_n 0, 1) := by decide +kernel
theorem d_Ki_makeRoom_51 : decode b_Ki_makeRoom 51 = .ok (.iload_n 2, 1) := by decide +kernel
theorem d_Ki_makeRoom_52 : decode b_Ki_makeRoom 52 = .ok (.newarray .int, 2) := by decide +kernel
theorem d_Ki_makeRoom_54 : decode b_Ki_makeRoom 54 = .ok (.putfield 35, 3) := by decide +kernel
theorem d_Ki_makeRoom_57 : decode b_Ki_makeRoom 57 = .ok (.aload_n 0, 1) := by decide +kernel
theorem d_Ki_makeRoom_58 : decode b_Ki_makeRoom 58 = .ok (.iload_n 2, 1) := by decide +kernel
theorem d_Ki_makeRoom_59 : decode b_Ki_makeRoom 59 = .ok (.newarray .int, 2) := by decide +kernel
theorem d_Ki_makeRoom_61 : decode b_Ki_makeRoom 61 = .ok (.putfield 38, 3) := by decide +kernel
theorem d_Ki_makeRoom_64 : decode b_Ki_makeRoom 64 = .ok (.aload_n 0, 1) := by decide +kernel
theorem d_Ki_makeRoom_65 : decode b_Ki_makeRoom 65 = .ok (.iload_n 2, 1) := by decide +kernel
theorem d_Ki_makeRoom_66 : decode b_Ki_makeRoom 66 = .ok (.newarray .int, 2) := by decide +kernel
theorem d_Ki_makeRoom_68 : decode b_Ki_makeRoom 68 = .ok (.putfield 41, 3) := by decide +kernel
theorem d_Ki_makeRoom_71 : decode b_Ki_makeRoom 71 = .ok (.aload_n 0, 1) := by decide +kernel
theorem d_Ki_makeRoom_72 : decode b_Ki_makeRoom 72 = .ok (.iload_n 2, 1) := by decide +kernel
theorem d_Ki_makeRoom_73 : decode b_Ki_makeRoom 73 = .ok (.newarray .int, 2) := by decide +kernel
theorem d_Ki_makeRoom_75 : decode b_Ki_makeRoom 75 = .ok (.putfield 44, 3) := by decide +kernel
theorem d_Ki_makeRoom_78 : decode b_Ki_makeRoom 78 = .ok (.aload_n 0, 1) := by decide +kernel
theorem d_Ki_makeRoom_79 : decode b_Ki_makeRoom 79 = .ok (.iload_n 2, 1) := by decide +kernel
theorem d_Ki_makeRoom_80 : decode b_Ki_makeRoom 80 = .ok (.newarray .int, 2) := by decide +kernel
theorem d_Ki_makeRoom_82 : decode b_Ki_makeRoom 82 = .ok (.putfield 50, 3) := by decide +kernel
theorem d_Ki_makeRoom_85 : decode b_Ki_makeRoom 85 = .ok (.aload_n 0, 1) := by decide +kernel
theorem d_Ki_makeRoom_86 : decode b_Ki_makeRoom 86 = .ok (.iload_n 2, 1) := by decide +kernel
theorem d_Ki_makeRoom_87 : decode b_Ki_makeRoom 87 = .ok (.newarray .int, 2) := by decide +kernel
theorem d_Ki_makeRoom_89 : decode b_Ki_makeRoom 89 = .ok (.putfield 53, 3) := by decide +kernel
theorem d_Ki_makeRoom_92 : decode b_Ki_makeRoom 92 = .ok (.aload_n 0, 1) := by decide +kernel
theorem d_Ki_makeRoom_93 : decode b_Ki_makeRoom 93 = .ok (.iload_n 2, 1) := by decide +kernel
theorem d_Ki_makeRoom_94 : decode b_Ki_makeRoom 94 = .ok (.newarray .int, 2) := by decide +kernel
theorem d_Ki_makeRoom_96 : decode b_Ki_makeRoom 96 = .ok (.putfield 56, 3) := by decide +kernel
theorem d_Ki_makeRoom_99 : decode b_Ki_makeRoom 99 = .ok (.aload_n 0, 1) := by decide +kernel
theorem d_Ki_makeRoom_100 : decode b_Ki_makeRoom 100 = .ok (.iload_n 2, 1) := by decide +kernel
theorem d_Ki_makeRoom_101 : decode b_Ki_makeRoom 101 = .ok (.newarray .int, 2) := by decide +kernel
theorem d_Ki_makeRoom_103 : decode b_Ki_makeRoom 103 = .ok (.putfield 59, 3) := by decide +kernel
theorem d_Ki_makeRoom_106 : decode b_Ki_makeRoom 106 = .ok (.aload_n 0, 1) := by decide +kernel
theorem d_Ki_makeRoom_107 : decode b_Ki_makeRoom 107 = .ok (.iconst 2, 1) := by decide +kernel
theorem d_Ki_makeRoom_108 : decode b_Ki_makeRoom 108 = .ok (.iload_n 2, 1) := by decide +kernel
theorem d_Ki_makeRoom_109 : decode b_Ki_makeRoom 109 = .ok (.imul, 1) := by decide +kernel
theorem d_Ki_makeRoom_110 : decode b_Ki_makeRoom 110 = .ok (.newarray .int, 2) := by decide +kernel
theorem d_Ki_makeRoom_112 : decode b_Ki_makeRoom 112 = .ok (.putfield 62, 3) := by decide +kernel
theorem d_Ki_makeRoom_115 : decode b_Ki_makeRoom 115 = .ok (.aload_n 0, 1) := by decide +kernel
theorem d_Ki_makeRoom_116 : decode b_Ki_makeRoom 116 = .ok (.iconst 2, 1) := by decide +kernel
theorem d_Ki_makeRoom_117 : decode b_Ki_makeRoom 117 = .ok (.iload_n 2, 1) := by decide +kernel
theorem d_Ki_makeRoom_118 : decode b_Ki_makeRoom 118 = .ok (.imul, 1) := by decide +kernel
theorem d_Ki_makeRoom_119 : decode b_Ki_makeRoom 119 = .ok (.newarray .long, 2) := by decide +kernel
theorem d_Ki_makeRoom_121 : decode b_Ki_makeRoom 121 = .ok (.putfield 65, 3) := by decide +kernel
theorem d_Ki_makeRoom_124 : decode b_Ki_makeRoom 124 = .ok (.return_, 1) := by decide +kernel
set_option maxRecDepth 100000 in
set_option maxHeartbeats 4000000 in
theorem S_Ki_makeRoom_0 {G : Gc} {M : Mc} {Q : State → Prop} {K : Option Value → Hp → Prop} (hG : gok G) (hM : mok G M r_Ki_makeRoom Q K) (v0 : Nat) (v1 : Int32) (h : Hp) (F : kT h v0 = 10 ∧ kR h v0 2 = some (rf h v0 2) ∧ (kT h (rf h v0 2) = 50 ∧ (((nI (kN h (rf h v0 2))) < v1 → (sem G r_WP_roomFor [.int v1] h (fun u2 h1 => ∃ x3 : Int32, u2 = some (.int x3) ∧ (¬ x3 < 0 ∧ kX h1 + 1 ≤ gB G + capC ∧ kS h1 + (Int32.toNatClampNeg x3) ≤ capS ∧ (∀ h4 : Hp, h4 = wA h1 50 (Int32.toNatClampNeg x3) (Int32.toNatClampNeg x3) → (kT h4 v0 = 10 ∧ (∀ h5 : Hp, h5 = wR h4 v0 2 (some (kX h1)) → (¬ x3 < 0 ∧ kX h5 + 1 ≤ gB G + capC ∧ kS h5 + (Int32.toNatClampNeg x3) ≤ capS ∧ (∀ h6 : Hp, h6 = wA h5 50 (Int32.toNatClampNeg x3) (Int32.toNatClampNeg x3) → (kT h6 v0 = 10 ∧ (∀ h7 : Hp, h7 = wR h6 v0 3 (some (kX h5)) → (¬ x3 < 0 ∧ kX h7 + 1 ≤ gB G + capC ∧ kS h7 + (Int32.toNatClampNeg x3) ≤ capS ∧ (∀ h8 : Hp, h8 = wA h7 50 (Int32.toNatClampNeg x3) (Int32.toNatClampNeg x3) → (kT h8 v0 = 10 ∧ (∀ h9 : Hp, h9 = wR h8 v0 4 (some (kX h7)) → (¬ x3 < 0 ∧ kX h9 + 1 ≤ gB G + capC ∧ kS h9 + (Int32.toNatClampNeg x3) ≤ capS ∧ (∀ h10 : Hp, h10 = wA h9 50 (Int32.toNatClampNeg x3) (Int32.toNatClampNeg x3) → (kT h10 v0 = 10 ∧ (∀ h11 : Hp, h11 = wR h10 v0 5 (some (kX h9)) → (¬ x3 < 0 ∧ kX h11 + 1 ≤ gB G + capC ∧ kS h11 + (Int32.toNatClampNeg x3) ≤ capS ∧ (∀ h12 : Hp, h12 = wA h11 50 (Int32.toNatClampNeg x3) (Int32.toNatClampNeg x3) → (kT h12 v0 = 10 ∧ (∀ h13 : Hp, h13 = wR h12 v0 6 (some (kX h11)) → (¬ x3 < 0 ∧ kX h13 + 1 ≤ gB G + capC ∧ kS h13 + (Int32.toNatClampNeg x3) ≤ capS ∧ (∀ h14 : Hp, h14 = wA h13 50 (Int32.toNatClampNeg x3) (Int32.toNatClampNeg x3) → (kT h14 v0 = 10 ∧ (∀ h15 : Hp, h15 = wR h14 v0 7 (some (kX h13)) → (¬ x3 < 0 ∧ kX h15 + 1 ≤ gB G + capC ∧ kS h15 + (Int32.toNatClampNeg x3) ≤ capS ∧ (∀ h16 : Hp, h16 = wA h15 50 (Int32.toNatClampNeg x3) (Int32.toNatClampNeg x3) → (kT h16 v0 = 10 ∧ (∀ h17 : Hp, h17 = wR h16 v0 8 (some (kX h15)) → (¬ x3 < 0 ∧ kX h17 + 1 ≤ gB G + capC ∧ kS h17 + (Int32.toNatClampNeg x3) ≤ capS ∧ (∀ h18 : Hp, h18 = wA h17 50 (Int32.toNatClampNeg x3) (Int32.toNatClampNeg x3) → (kT h18 v0 = 10 ∧ (∀ h19 : Hp, h19 = wR h18 v0 9 (some (kX h17)) → (¬ x3 < 0 ∧ kX h19 + 1 ≤ gB G + capC ∧ kS h19 + (Int32.toNatClampNeg x3) ≤ capS ∧ (∀ h20 : Hp, h20 = wA h19 50 (Int32.toNatClampNeg x3) (Int32.toNatClampNeg x3) → (kT h20 v0 = 10 ∧ (∀ h21 : Hp, h21 = wR h20 v0 10 (some (kX h19)) → (¬ x3 < 0 ∧ kX h21 + 1 ≤ gB G + capC ∧ kS h21 + (Int32.toNatClampNeg x3) ≤ capS ∧ (∀ h22 : Hp, h22 = wA h21 50 (Int32.toNatClampNeg x3) (Int32.toNatClampNeg x3) → (kT h22 v0 = 10 ∧ (∀ h23 : Hp, h23 = wR h22 v0 12 (some (kX h21)) → (¬ x3 < 0 ∧ kX h23 + 1 ≤ gB G + capC ∧ kS h23 + (Int32.toNatClampNeg x3) ≤ capS ∧ (∀ h24 : Hp, h24 = wA h23 50 (Int32.toNatClampNeg x3) (Int32.toNatClampNeg x3) → (kT h24 v0 = 10 ∧ (∀ h25 : Hp, h25 = wR h24 v0 13 (some (kX h23)) → (¬ x3 < 0 ∧ kX h25 + 1 ≤ gB G + capC ∧ kS h25 + (Int32.toNatClampNeg x3) ≤ capS ∧ (∀ h26 : Hp, h26 = wA h25 50 (Int32.toNatClampNeg x3) (Int32.toNatClampNeg x3) → (kT h26 v0 = 10 ∧ (∀ h27 : Hp, h27 = wR h26 v0 14 (some (kX h25)) → (¬ x3 < 0 ∧ kX h27 + 1 ≤ gB G + capC ∧ kS h27 + (Int32.toNatClampNeg x3) ≤ capS ∧ (∀ h28 : Hp, h28 = wA h27 50 (Int32.toNatClampNeg x3) (Int32.toNatClampNeg x3) → (kT h28 v0 = 10 ∧ (∀ h29 : Hp, h29 = wR h28 v0 15 (some (kX h27)) → (¬ (2 * x3) < 0 ∧ kX h29 + 1 ≤ gB G + capC ∧ kS h29 + (Int32.toNatClampNeg (2 * x3)) ≤ capS ∧ (∀ h30 : Hp, h30 = wA h29 50 (Int32.toNatClampNeg (2 * x3)) (Int32.toNatClampNeg (2 * x3)) → (kT h30 v0 = 10 ∧ (∀ h31 : Hp, h31 = wR h30 v0 16 (some (kX h29)) → (¬ (2 * x3) < 0 ∧ kX h31 + 1 ≤ gB G + capC ∧ kS h31 + (Int32.toNatClampNeg (2 * x3)) ≤ capS ∧ (∀ h32 : Hp, h32 = wA h31 52 (Int32.toNatClampNeg (2 * x3)) (Int32.toNatClampNeg (2 * x3)) → (kT h32 v0 = 10 ∧ (∀ h33 : Hp, h33 = wR h32 v0 17 (some (kX h31)) → K none h33))))))))))))))))))))))))))))))))))))))))))))))))))))))))))))))) ∧ (¬ (nI (kN h (rf h v0 2))) < v1 → K none h)))) : X G M Q 0 [(0, .ref v0), (1, .int v1)] [] h := by
  refine x_aload_n hM d_Ki_makeRoom_0 rfl 0 rfl ?_
  obtain ⟨c96, F⟩ := F
  obtain ⟨c97, F⟩ := F
  refine x_getr hG hM ck_Ki 2 (Nat.le_of_ble_eq_true rfl) rfl rfl w_325 rfl d_Ki_makeRoom_1 c96 c97 ?_
  obtain ⟨c95, F⟩ := F
  refine x_alen hG hM 50 rfl (Nat.le_of_ble_eq_true rfl) d_Ki_makeRoom_4 c95 ?_
  refine x_iload_n hM d_Ki_makeRoom_5 rfl 1 rfl ?_
  refine x_icmp_lt (tgt := 10) hM d_Ki_makeRoom_6 (by decide) (fun q94 => ?_) (fun q94 => ?_)
  · replace F := F.1 q94
    refine x_iload_n hM d_Ki_makeRoom_10 rfl 1 rfl ?_
    refine x_callSN hG hM (r' := r_WP_roomFor) [.int v1] rfl yk_WP_roomFor ⟨Nat.le_of_ble_eq_true rfl, Nat.le_of_ble_eq_true rfl⟩ w_706 w_589 rfl rfl (Nat.le_of_ble_eq_true rfl) d_Ki_makeRoom_11 (sem_mono F ?_)
    intro u2 h1 F
    obtain ⟨x3, rfl, F⟩ := F
    refine x_istore_n (lv2 := [(2, .int x3), (0, .ref v0), (1, .int v1)]) hM d_Ki_makeRoom_14 rfl (Nat.le_of_ble_eq_true rfl) rfl ?_
    refine x_aload_n hM d_Ki_makeRoom_15 rfl 1 rfl ?_
    refine x_iload_n hM d_Ki_makeRoom_16 rfl 0 rfl ?_
    obtain ⟨c91, F⟩ := F
    obtain ⟨c92, F⟩ := F
    obtain ⟨c93, F⟩ := F
    obtain ⟨h4, eh4⟩ : ∃ z : Hp, z = wA h1 50 (Int32.toNatClampNeg x3) (Int32.toNatClampNeg x3) := ⟨_, rfl⟩
    replace F := F h4 eh4
    refine x_newI hG hM (N := (Int32.toNatClampNeg x3)) w_63 d_Ki_makeRoom_17 c91 rfl c92 c93 ?_
    rw [← eh4]
    clear eh4
    obtain ⟨c90, F⟩ := F
    obtain ⟨h5, eh5⟩ : ∃ z : Hp, z = wR h4 v0 2 (some (kX h1)) := ⟨_, rfl⟩
    replace F := F h5 eh5
    refine x_putr hG hM ck_Ki 2 (Nat.le_of_ble_eq_true rfl) (Or.inr ⟨_, rfl⟩) rfl w_325 rfl d_Ki_makeRoom_19 (Or.inl rfl) c90 ?_
    rw [← eh5]
    clear eh5
    refine x_aload_n hM d_Ki_makeRoom_22 rfl 1 rfl ?_
    refine x_iload_n hM d_Ki_makeRoom_23 rfl 0 rfl ?_
    obtain ⟨c87, F⟩ := F
    obtain ⟨c88, F⟩ := F
    obtain ⟨c89, F⟩ := F
    obtain ⟨h6, eh6⟩ : ∃ z : Hp, z = wA h5 50 (Int32.toNatClampNeg x3) (Int32.toNatClampNeg x3) := ⟨_, rfl⟩
    replace F := F h6 eh6
    refine x_newI hG hM (N := (Int32.toNatClampNeg x3)) w_63 d_Ki_makeRoom_24 c87 rfl c88 c89 ?_
    rw [← eh6]
    clear eh6
    obtain ⟨c86, F⟩ := F
    obtain ⟨h7, eh7⟩ : ∃ z : Hp, z = wR h6 v0 3 (some (kX h5)) := ⟨_, rfl⟩
    replace F := F h7 eh7
    refine x_putr hG hM ck_Ki 3 (Nat.le_of_ble_eq_true rfl) (Or.inr ⟨_, rfl⟩) rfl w_327 rfl d_Ki_makeRoom_26 (Or.inl rfl) c86 ?_
    rw [← eh7]
    clear eh7
    refine x_aload_n hM d_Ki_makeRoom_29 rfl 1 rfl ?_
    refine x_iload_n hM d_Ki_makeRoom_30 rfl 0 rfl ?_
    obtain ⟨c83, F⟩ := F
    obtain ⟨c84, F⟩ := F
    obtain ⟨c85, F⟩ := F
    obtain ⟨h8, eh8⟩ : ∃ z : Hp, z = wA h7 50 (Int32.toNatClampNeg x3) (Int32.toNatClampNeg x3) := ⟨_, rfl⟩
    replace F := F h8 eh8
    refine x_newI hG hM (N := (Int32.toNatClampNeg x3)) w_63 d_Ki_makeRoom_31 c83 rfl c84 c85 ?_
    rw [← eh8]
    clear eh8
    obtain ⟨c82, F⟩ := F
    obtain ⟨h9, eh9⟩ : ∃ z : Hp, z = wR h8 v0 4 (some (kX h7)) := ⟨_, rfl⟩
    replace F := F h9 eh9
    refine x_putr hG hM ck_Ki 4 (Nat.le_of_ble_eq_true rfl) (Or.inr ⟨_, rfl⟩) rfl w_329 rfl d_Ki_makeRoom_33 (Or.inl rfl) c82 ?_
    rw [← eh9]
    clear eh9
    refine x_aload_n hM d_Ki_makeRoom_36 rfl 1 rfl ?_
    refine x_iload_n hM d_Ki_makeRoom_37 rfl 0 rfl ?_
    obtain ⟨c79, F⟩ := F
    obtain ⟨c80, F⟩ := F
    obtain ⟨c81, F⟩ := F
    obtain ⟨h10, eh10⟩ : ∃ z : Hp, z = wA h9 50 (Int32.toNatClampNeg x3) (Int32.toNatClampNeg x3) := ⟨_, rfl⟩
    replace F := F h10 eh10
    refine x_newI hG hM (N := (Int32.toNatClampNeg x3)) w_63 d_Ki_makeRoom_38 c79 rfl c80 c81 ?_
    rw [← eh10]
    clear eh10
    obtain ⟨c78, F⟩ := F
    obtain ⟨h11, eh11⟩ : ∃ z : Hp, z = wR h10 v0 5 (some (kX h9)) := ⟨_, rfl⟩
    replace F := F h11 eh11
    refine x_putr hG hM ck_Ki 5 (Nat.le_of_ble_eq_true rfl) (Or.inr ⟨_, rfl⟩) rfl w_330 rfl d_Ki_makeRoom_40 (Or.inl rfl) c78 ?_
    rw [← eh11]
    clear eh11
    refine x_aload_n hM d_Ki_makeRoom_43 rfl 1 rfl ?_
    refine x_iload_n hM d_Ki_makeRoom_44 rfl 0 rfl ?_
    obtain ⟨c75, F⟩ := F
    obtain ⟨c76, F⟩ := F
    obtain ⟨c77, F⟩ := F
    obtain ⟨h12, eh12⟩ : ∃ z : Hp, z = wA h11 50 (Int32.toNatClampNeg x3) (Int32.toNatClampNeg x3) := ⟨_, rfl⟩
    replace F := F h12 eh12
    refine x_newI hG hM (N := (Int32.toNatClampNeg x3)) w_63 d_Ki_makeRoom_45 c75 rfl c76 c77 ?_
    rw [← eh12]
    clear eh12
    obtain ⟨c74, F⟩ := F
    obtain ⟨h13, eh13⟩ : ∃ z : Hp, z = wR h12 v0 6 (some (kX h11)) := ⟨_, rfl⟩
    replace F := F h13 eh13
    refine x_putr hG hM ck_Ki 6 (Nat.le_of_ble_eq_true rfl) (Or.inr ⟨_, rfl⟩) rfl w_331 rfl d_Ki_makeRoom_47 (Or.inl rfl) c74 ?_
    rw [← eh13]
    clear eh13
    refine x_aload_n hM d_Ki_makeRoom_50 rfl 1 rfl ?_
    refine x_iload_n hM d_Ki_makeRoom_51 rfl 0 rfl ?_
    obtain ⟨c71, F⟩ := F
    obtain ⟨c72, F⟩ := F
    obtain ⟨c73, F⟩ := F
    obtain ⟨h14, eh14⟩ : ∃ z : Hp, z = wA h13 50 (Int32.toNatClampNeg x3) (Int32.toNatClampNeg x3) := ⟨_, rfl⟩
    replace F := F h14 eh14
    refine x_newI hG hM (N := (Int32.toNatClampNeg x3)) w_63 d_Ki_makeRoom_52 c71 rfl c72 c73 ?_
    rw [← eh14]
    clear eh14
    obtain ⟨c70, F⟩ := F
    obtain ⟨h15, eh15⟩ : ∃ z : Hp, z = wR h14 v0 7 (some (kX h13)) := ⟨_, rfl⟩
    replace F := F h15 eh15
    refine x_putr hG hM ck_Ki 7 (Nat.le_of_ble_eq_true rfl) (Or.inr ⟨_, rfl⟩) rfl w_332 rfl d_Ki_makeRoom_54 (Or.inl rfl) c70 ?_
    rw [← eh15]
    clear eh15
    refine x_aload_n hM d_Ki_makeRoom_57 rfl 1 rfl ?_
    refine x_iload_n hM d_Ki_makeRoom_58 rfl 0 rfl ?_
    obtain ⟨c67, F⟩ := F
    obtain ⟨c68, F⟩ := F
    obtain ⟨c69, F⟩ := F
    obtain ⟨h16, eh16⟩ : ∃ z : Hp, z = wA h15 50 (Int32.toNatClampNeg x3) (Int32.toNatClampNeg x3) := ⟨_, rfl⟩
    replace F := F h16 eh16
    refine x_newI hG hM (N := (Int32.toNatClampNeg x3)) w_63 d_Ki_makeRoom_59 c67 rfl c68 c69 ?_
    rw [← eh16]
    clear eh16
    obtain ⟨c66, F⟩ := F
    obtain ⟨h17, eh17⟩ : ∃ z : Hp, z = wR h16 v0 8 (some (kX h15)) := ⟨_, rfl⟩
    replace F := F h17 eh17
    refine x_putr hG hM ck_Ki 8 (Nat.le_of_ble_eq_true rfl) (Or.inr ⟨_, rfl⟩) rfl w_333 rfl d_Ki_makeRoom_61 (Or.inl rfl) c66 ?_
    rw [← eh17]
    clear eh17
    refine x_aload_n hM d_Ki_makeRoom_64 rfl 1 rfl ?_
    refine x_iload_n hM d_Ki_makeRoom_65 rfl 0 rfl ?_
    obtain ⟨c63, F⟩ := F
    obtain ⟨c64, F⟩ := F
    obtain ⟨c65, F⟩ := F
    obtain ⟨h18, eh18⟩ : ∃ z : Hp, z = wA h17 50 (Int32.toNatClampNeg x3) (Int32.toNatClampNeg x3) := ⟨_, rfl⟩
    replace F := F h18 eh18
    refine x_newI hG hM (N := (Int32.toNatClampNeg x3)) w_63 d_Ki_makeRoom_66 c63 rfl c64 c65 ?_
    rw [← eh18]
    clear eh18
    obtain ⟨c62, F⟩ := F
    obtain ⟨h19, eh19⟩ : ∃ z : Hp, z = wR h18 v0 9 (some (kX h17)) := ⟨_, rfl⟩
    replace F := F h19 eh19
    refine x_putr hG hM ck_Ki 9 (Nat.le_of_ble_eq_true rfl) (Or.inr ⟨_, rfl⟩) rfl w_334 rfl d_Ki_makeRoom_68 (Or.inl rfl) c62 ?_
    rw [← eh19]
    clear eh19
    refine x_aload_n hM d_Ki_makeRoom_71 rfl 1 rfl ?_
    refine x_iload_n hM d_Ki_makeRoom_72 rfl 0 rfl ?_
    obtain ⟨c59, F⟩ := F
    obtain ⟨c60, F⟩ := F
    obtain ⟨c61, F⟩ := F
    obtain ⟨h20, eh20⟩ : ∃ z : Hp, z = wA h19 50 (Int32.toNatClampNeg x3) (Int32.toNatClampNeg x3) := ⟨_, rfl⟩
    replace F := F h20 eh20
    refine x_newI hG hM (N := (Int32.toNatClampNeg x3)) w_63 d_Ki_makeRoom_73 c59 rfl c60 c61 ?_
    rw [← eh20]
    clear eh20
    obtain ⟨c58, F⟩ := F
    obtain ⟨h21, eh21⟩ : ∃ z : Hp, z = wR h20 v0 10 (some (kX h19)) := ⟨_, rfl⟩
    replace F := F h21 eh21
    refine x_putr hG hM ck_Ki 10 (Nat.le_of_ble_eq_true rfl) (Or.inr ⟨_, rfl⟩) rfl w_335 rfl d_Ki_makeRoom_75 (Or.inl rfl) c58 ?_
    rw [← eh21]
    clear eh21
    refine x_aload_n hM d_Ki_makeRoom_78 rfl 1 rfl ?_
    refine x_iload_n hM d_Ki_makeRoom_79 rfl 0 rfl ?_
    obtain ⟨c55, F⟩ := F
    obtain ⟨c56, F⟩ := F
    obtain ⟨c57, F⟩ := F
    obtain ⟨h22, eh22⟩ : ∃ z : Hp, z = wA h21 50 (Int32.toNatClampNeg x3) (Int32.toNatClampNeg x3) := ⟨_, rfl⟩
    replace F := F h22 eh22
    refine x_newI hG hM (N := (Int32.toNatClampNeg x3)) w_63 d_Ki_makeRoom_80 c55 rfl c56 c57 ?_
    rw [← eh22]
    clear eh22
    obtain ⟨c54, F⟩ := F
    obtain ⟨h23, eh23⟩ : ∃ z : Hp, z = wR h22 v0 12 (some (kX h21)) := ⟨_, rfl⟩
    replace F := F h23 eh23
    refine x_putr hG hM ck_Ki 12 (Nat.le_of_ble_eq_true rfl) (Or.inr ⟨_, rfl⟩) rfl w_337 rfl d_Ki_makeRoom_82 (Or.inl rfl) c54 ?_
    rw [← eh23]
    clear eh23
    refine x_aload_n hM d_Ki_makeRoom_85 rfl 1 rfl ?_
    refine x_iload_n hM d_Ki_makeRoom_86 rfl 0 rfl ?_
    obtain ⟨c51, F⟩ := F
    obtain ⟨c52, F⟩ := F
    obtain ⟨c53, F⟩ := F
    obtain ⟨h24, eh24⟩ : ∃ z : Hp, z = wA h23 50 (Int32.toNatClampNeg x3) (Int32.toNatClampNeg x3) := ⟨_, rfl⟩
    replace F := F h24 eh24
    refine x_newI hG hM (N := (Int32.toNatClampNeg x3)) w_63 d_Ki_makeRoom_87 c51 rfl c52 c53 ?_
    rw [← eh24]
    clear eh24
    obtain ⟨c50, F⟩ := F
    obtain ⟨h25, eh25⟩ : ∃ z : Hp, z = wR h24 v0 13 (some (kX h23)) := ⟨_, rfl⟩
    replace F := F h25 eh25
    refine x_putr hG hM ck_Ki 13 (Nat.le_of_ble_eq_true rfl) (Or.inr ⟨_, rfl⟩) rfl w_338 rfl d_Ki_makeRoom_89 (Or.inl rfl) c50 ?_
    rw [← eh25]
    clear eh25
    refine x_aload_n hM d_Ki_makeRoom_92 rfl 1 rfl ?_
    refine x_iload_n hM d_Ki_makeRoom_93 rfl 0 rfl ?_
    obtain ⟨c47, F⟩ := F
    obtain ⟨c48, F⟩ := F
    obtain ⟨c49, F⟩ := F
    obtain ⟨h26, eh26⟩ : ∃ z : Hp, z = wA h25 50 (Int32.toNatClampNeg x3) (Int32.toNatClampNeg x3) := ⟨_, rfl⟩
    replace F := F h26 eh26
    refine x_newI hG hM (N := (Int32.toNatClampNeg x3)) w_63 d_Ki_makeRoom_94 c47 rfl c48 c49 ?_
    rw [← eh26]
    clear eh26
    obtain ⟨c46, F⟩ := F
    obtain ⟨h27, eh27⟩ : ∃ z : Hp, z = wR h26 v0 14 (some (kX h25)) := ⟨_, rfl⟩
    replace F := F h27 eh27
    refine x_putr hG hM ck_Ki 14 (Nat.le_of_ble_eq_true rfl) (Or.inr ⟨_, rfl⟩) rfl w_339 rfl d_Ki_makeRoom_96 (Or.inl rfl) c46 ?_
    rw [← eh27]
    clear eh27
    refine x_aload_n hM d_Ki_makeRoom_99 rfl 1 rfl ?_
    refine x_iload_n hM d_Ki_makeRoom_100 rfl 0 rfl ?_
    obtain ⟨c43, F⟩ := F
    obtain ⟨c44, F⟩ := F
    obtain ⟨c45, F⟩ := F
    obtain ⟨h28, eh28⟩ : ∃ z : Hp, z = wA h27 50 (Int32.toNatClampNeg x3) (Int32.toNatClampNeg x3) := ⟨_, rfl⟩
    replace F := F h28 eh28
    refine x_newI hG hM (N := (Int32.toNatClampNeg x3)) w_63 d_Ki_makeRoom_101 c43 rfl c44 c45 ?_
    rw [← eh28]
    clear eh28
    obtain ⟨c42, F⟩ := F
    obtain ⟨h29, eh29⟩ : ∃ z : Hp, z = wR h28 v0 15 (some (kX h27)) := ⟨_, rfl⟩
    replace F := F h29 eh29
    refine x_putr hG hM ck_Ki 15 (Nat.le_of_ble_eq_true rfl) (Or.inr ⟨_, rfl⟩) rfl w_340 rfl d_Ki_makeRoom_103 (Or.inl rfl) c42 ?_
    rw [← eh29]
    clear eh29
    refine x_aload_n hM d_Ki_makeRoom_106 rfl 1 rfl ?_
    refine x_iconst (v := 2) hM d_Ki_makeRoom_107 (by decide) ?_
    refine x_iload_n hM d_Ki_makeRoom_108 rfl 0 rfl ?_
    refine x_imul hM d_Ki_makeRoom_109 ?_
    obtain ⟨c39, F⟩ := F
    obtain ⟨c40, F⟩ := F
    obtain ⟨c41, F⟩ := F
    obtain ⟨h30, eh30⟩ : ∃ z : Hp, z = wA h29 50 (Int32.toNatClampNeg (2 * x3)) (Int32.toNatClampNeg (2 * x3)) := ⟨_, rfl⟩
    replace F := F h30 eh30
    refine x_newI hG hM (N := (Int32.toNatClampNeg (2 * x3))) w_63 d_Ki_makeRoom_110 c39 rfl c40 c41 ?_
    rw [← eh30]
    clear eh30
    obtain ⟨c38, F⟩ := F
    obtain ⟨h31, eh31⟩ : ∃ z : Hp, z = wR h30 v0 16 (some (kX h29)) := ⟨_, rfl⟩
    replace F := F h31 eh31
    refine x_putr hG hM ck_Ki 16 (Nat.le_of_ble_eq_true rfl) (Or.inr ⟨_, rfl⟩) rfl w_341 rfl d_Ki_makeRoom_112 (Or.inl rfl) c38 ?_
    rw [← eh31]
    clear eh31
    refine x_aload_n hM d_Ki_makeRoom_115 rfl 1 rfl ?_
    refine x_iconst (v := 2) hM d_Ki_makeRoom_116 (by decide) ?_
    refine x_iload_n hM d_Ki_makeRoom_117 rfl 0 rfl ?_
    refine x_imul hM d_Ki_makeRoom_118 ?_
    obtain ⟨c35, F⟩ := F
    obtain ⟨c36, F⟩ := F
    obtain ⟨c37, F⟩ := F
    obtain ⟨h32, eh32⟩ : ∃ z : Hp, z = wA h31 52 (Int32.toNatClampNeg (2 * x3)) (Int32.toNatClampNeg (2 * x3)) := ⟨_, rfl⟩
    replace F := F h32 eh32
    refine x_newL hG hM (N := (Int32.toNatClampNeg (2 * x3))) w_276 d_Ki_makeRoom_119 c35 rfl c36 c37 ?_
    rw [← eh32]
    clear eh32
    obtain ⟨c34, F⟩ := F
    obtain ⟨h33, eh33⟩ : ∃ z : Hp, z = wR h32 v0 17 (some (kX h31)) := ⟨_, rfl⟩
    replace F := F h33 eh33
    refine x_putr hG hM ck_Ki 17 (Nat.le_of_ble_eq_true rfl) (Or.inr ⟨_, rfl⟩) rfl w_342 rfl d_Ki_makeRoom_121 (Or.inl rfl) c34 ?_
    rw [← eh33]
    clear eh33
    exact x_return hM d_Ki_makeRoom_124 rfl F
  · replace F := F.2 q94
    exact x_return hM d_Ki_makeRoom_9 rfl F
