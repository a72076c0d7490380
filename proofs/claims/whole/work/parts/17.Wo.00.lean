theorem d_Wo_init_0 : decode b_Wo_init 0 = .ok (.aload_n 0, 1) := by decide +kernel
theorem d_Wo_init_1 : decode b_Wo_init 1 = .ok (.invokespecial 3, 3) := by decide +kernel
theorem d_Wo_init_4 : decode b_Wo_init 4 = .ok (.aload_n 0, 1) := by decide +kernel
theorem d_Wo_init_5 : decode b_Wo_init 5 = .ok (.iconst 0, 1) := by decide +kernel
theorem d_Wo_init_6 : decode b_Wo_init 6 = .ok (.putfield 9, 3) := by decide +kernel
theorem d_Wo_init_9 : decode b_Wo_init 9 = .ok (.aload_n 0, 1) := by decide +kernel
theorem d_Wo_init_10 : decode b_Wo_init 10 = .ok (.iconst 1, 1) := by decide +kernel
theorem d_Wo_init_11 : decode b_Wo_init 11 = .ok (.putfield 15, 3) := by decide +kernel
theorem d_Wo_init_14 : decode b_Wo_init 14 = .ok (.aload_n 0, 1) := by decide +kernel
theorem d_Wo_init_15 : decode b_Wo_init 15 = .ok (.iconst 0, 1) := by decide +kernel
theorem d_Wo_init_16 : decode b_Wo_init 16 = .ok (.putfield 18, 3) := by decide +kernel
theorem d_Wo_init_19 : decode b_Wo_init 19 = .ok (.aload_n 0, 1) := by decide +kernel
theorem d_Wo_init_20 : decode b_Wo_init 20 = .ok (.bipush 8, 2) := by decide +kernel
theorem d_Wo_init_22 : decode b_Wo_init 22 = .ok (.newarray .int, 2) := by decide +kernel
theorem d_Wo_init_24 : decode b_Wo_init 24 = .ok (.putfield 21, 3) := by decide +kernel
theorem d_Wo_init_27 : decode b_Wo_init 27 = .ok (.aload_n 0, 1) := by decide +kernel
theorem d_Wo_init_28 : decode b_Wo_init 28 = .ok (.bipush 8, 2) := by decide +kernel
theorem d_Wo_init_30 : decode b_Wo_init 30 = .ok (.newarray .int, 2) := by decide +kernel
theorem d_Wo_init_32 : decode b_Wo_init 32 = .ok (.putfield 25, 3) := by decide +kernel
theorem d_Wo_init_35 : decode b_Wo_init 35 = .ok (.aload_n 0, 1) := by decide +kernel
theorem d_Wo_init_36 : decode b_Wo_init 36 = .ok (.bipush 12, 2) := by decide +kernel
theorem d_Wo_init_38 : decode b_Wo_init 38 = .ok (.anewarray 28, 3) := by decide +kernel
theorem d_Wo_init_41 : decode b_Wo_init 41 = .ok (.putfield 30, 3) := by decide +kernel
theorem d_Wo_init_44 : decode b_Wo_init 44 = .ok (.aload_n 0, 1) := by decide +kernel
theorem d_Wo_init_45 : decode b_Wo_init 45 = .ok (.iconst 0, 1) := by decide +kernel
theorem d_Wo_init_46 : decode b_Wo_init 46 = .ok (.newarray .int, 2) := by decide +kernel
theorem d_Wo_init_48 : decode b_Wo_init 48 = .ok (.putfield 34, 3) := by decide +kernel
theorem d_Wo_init_51 : decode b_Wo_init 51 = .ok (.aload_n 0, 1) := by decide +kernel
theorem d_Wo_init_52 : decode b_Wo_init 52 = .ok (.iconst 0, 1) := by decide +kernel
theorem d_Wo_init_53 : decode b_Wo_init 53 = .ok (.newarray .int, 2) := by decide +kernel
theorem d_Wo_init_55 : decode b_Wo_init 55 = .ok (.putfield 37, 3) := by decide +kernel
theorem d_Wo_init_58 : decode b_Wo_init 58 = .ok (.aload_n 0, 1) := by decide +kernel
theorem d_Wo_init_59 : decode b_Wo_init 59 = .ok (.iconst 0, 1) := by decide +kernel
theorem d_Wo_init_60 : decode b_Wo_init 60 = .ok (.putfield 40, 3) := by decide +kernel
theorem d_Wo_init_63 : decode b_Wo_init 63 = .ok (.aload_n 0, 1) := by decide +kernel
theorem d_Wo_init_64 : decode b_Wo_init 64 = .ok (.iconst 0, 1) := by decide +kernel
theorem d_Wo_init_65 : decode b_Wo_init 65 = .ok (.putfield 44, 3) := by decide +kernel
theorem d_Wo_init_68 : decode b_Wo_init 68 = .ok (.iconst 0, 1) := by decide +kernel
theorem d_Wo_init_69 : decode b_Wo_init 69 = .ok (.istore_n 1, 1) := by decide +kernel
theorem d_Wo_init_70 : decode b_Wo_init 70 = .ok (.iload_n 1, 1) := by decide +kernel
theorem d_Wo_init_71 : decode b_Wo_init 71 = .ok (.bipush 12, 2) := by decide +kernel
theorem d_Wo_init_73 : decode b_Wo_init 73 = .ok (.if_icmp .ge 22, 3) := by decide +kernel
theorem d_Wo_init_76 : decode b_Wo_init 76 = .ok (.aload_n 0, 1) := by decide +kernel
theorem d_Wo_init_77 : decode b_Wo_init 77 = .ok (.getfield 30, 3) := by decide +kernel
theorem d_Wo_init_80 : decode b_Wo_init 80 = .ok (.iload_n 1, 1) := by decide +kernel
theorem d_Wo_init_81 : decode b_Wo_init 81 = .ok (.new 28, 3) := by decide +kernel
theorem d_Wo_init_84 : decode b_Wo_init 84 = .ok (.dup, 1) := by decide +kernel
theorem d_Wo_init_85 : decode b_Wo_init 85 = .ok (.invokespecial 47, 3) := by decide +kernel
theorem d_Wo_init_88 : decode b_Wo_init 88 = .ok (.aastore, 1) := by decide +kernel
theorem d_Wo_init_89 : decode b_Wo_init 89 = .ok (.iinc 1 1, 3) := by decide +kernel
theorem d_Wo_init_92 : decode b_Wo_init 92 = .ok (.goto (-22), 3) := by decide +kernel
theorem d_Wo_init_95 : decode b_Wo_init 95 = .ok (.return_, 1) := by decide +kernel
set_option maxRecDepth 100000 in
set_option maxHeartbeats 4000000 in
theorem S_Wo_init_0 {G : Gc} {M : Mc} {Q : State → Prop} {K : Option Value → Hp → Prop} (hG : gok G) (hM : mok G M r_Wo_init Q K) (v0 : Nat) (h : Hp) (F : kT h v0 = 2 ∧ (∀ h1 : Hp, h1 = wI h v0 0 0 → (kT h1 v0 = 2 ∧ (∀ h2 : Hp, h2 = wI h1 v0 1 1 → (kT h2 v0 = 2 ∧ (∀ h3 : Hp, h3 = wI h2 v0 2 0 → (kX h3 + 1 ≤ gB G + capC ∧ kS h3 + 8 ≤ capS ∧ (∀ h4 : Hp, h4 = wA h3 50 8 8 → (kT h4 v0 = 2 ∧ (∀ h5 : Hp, h5 = wR h4 v0 3 (some (kX h3)) → (kX h5 + 1 ≤ gB G + capC ∧ kS h5 + 8 ≤ capS ∧ (∀ h6 : Hp, h6 = wA h5 50 8 8 → (kT h6 v0 = 2 ∧ (∀ h7 : Hp, h7 = wR h6 v0 4 (some (kX h5)) → (kX h7 + 1 ≤ gB G + capC ∧ kS h7 + 12 ≤ capS ∧ (∀ h8 : Hp, h8 = wA h7 53 12 12 → (kT h8 v0 = 2 ∧ (∀ h9 : Hp, h9 = wR h8 v0 5 (some (kX h7)) → (kX h9 + 1 ≤ gB G + capC ∧ kS h9 + 0 ≤ capS ∧ (∀ h10 : Hp, h10 = wA h9 50 0 0 → (kT h10 v0 = 2 ∧ (∀ h11 : Hp, h11 = wR h10 v0 6 (some (kX h9)) → (kX h11 + 1 ≤ gB G + capC ∧ kS h11 + 0 ≤ capS ∧ (∀ h12 : Hp, h12 = wA h11 50 0 0 → (kT h12 v0 = 2 ∧ (∀ h13 : Hp, h13 = wR h12 v0 7 (some (kX h11)) → (kT h13 v0 = 2 ∧ (∀ h14 : Hp, h14 = wI h13 v0 8 0 → (kT h14 v0 = 2 ∧ (∀ h15 : Hp, h15 = wI h14 v0 9 0 → X G M Q 70 [(0, .ref v0), (1, .int 0)] [] h15)))))))))))))))))))))))))))))) : X G M Q 0 [(0, .ref v0)] [] h := by
  refine x_aload_n hM d_Wo_init_0 rfl 0 rfl ?_
  refine x_objInit hG hM rfl w_29 w_22 w_objcode d_Wo_init_1 (Nat.le_of_ble_eq_true rfl) (Nat.le_of_ble_eq_true rfl) (Nat.le_of_ble_eq_true rfl) ?_
  refine x_aload_n hM d_Wo_init_4 rfl 0 rfl ?_
  refine x_iconst (v := 0) hM d_Wo_init_5 (by decide) ?_
  obtain ⟨c35, F⟩ := F
  obtain ⟨h1, eh1⟩ : ∃ z : Hp, z = wI h v0 0 0 := ⟨_, rfl⟩
  replace F := F h1 eh1
  refine x_puti hG hM ck_Wo 0 (Nat.le_of_ble_eq_true rfl) rfl rfl w_123 rfl d_Wo_init_6 (Or.inl rfl) c35 ?_
  rw [← eh1]
  clear eh1
  refine x_aload_n hM d_Wo_init_9 rfl 0 rfl ?_
  refine x_iconst (v := 1) hM d_Wo_init_10 (by decide) ?_
  obtain ⟨c34, F⟩ := F
  obtain ⟨h2, eh2⟩ : ∃ z : Hp, z = wI h1 v0 1 1 := ⟨_, rfl⟩
  replace F := F h2 eh2
  refine x_puti hG hM ck_Wo 1 (Nat.le_of_ble_eq_true rfl) rfl rfl w_125 rfl d_Wo_init_11 (Or.inl rfl) c34 ?_
  rw [← eh2]
  clear eh2
  refine x_aload_n hM d_Wo_init_14 rfl 0 rfl ?_
  refine x_iconst (v := 0) hM d_Wo_init_15 (by decide) ?_
  obtain ⟨c33, F⟩ := F
  obtain ⟨h3, eh3⟩ : ∃ z : Hp, z = wI h2 v0 2 0 := ⟨_, rfl⟩
  replace F := F h3 eh3
  refine x_puti hG hM ck_Wo 2 (Nat.le_of_ble_eq_true rfl) rfl rfl w_133 rfl d_Wo_init_16 (Or.inl rfl) c33 ?_
  rw [← eh3]
  clear eh3
  refine x_aload_n hM d_Wo_init_19 rfl 0 rfl ?_
  refine x_bipush (v := 8) hM d_Wo_init_20 (by decide) ?_
  obtain ⟨c31, F⟩ := F
  obtain ⟨c32, F⟩ := F
  obtain ⟨h4, eh4⟩ : ∃ z : Hp, z = wA h3 50 8 8 := ⟨_, rfl⟩
  replace F := F h4 eh4
  refine x_newI hG hM (N := 8) w_63 d_Wo_init_22 (by decide) rfl c31 c32 ?_
  rw [← eh4]
  clear eh4
  obtain ⟨c30, F⟩ := F
  obtain ⟨h5, eh5⟩ : ∃ z : Hp, z = wR h4 v0 3 (some (kX h3)) := ⟨_, rfl⟩
  replace F := F h5 eh5
  refine x_putr hG hM ck_Wo 3 (Nat.le_of_ble_eq_true rfl) (Or.inr ⟨_, rfl⟩) rfl w_140 rfl d_Wo_init_24 (Or.inr ⟨rfl, rfl, rfl⟩) c30 ?_
  rw [← eh5]
  clear eh5
  refine x_aload_n hM d_Wo_init_27 rfl 0 rfl ?_
  refine x_bipush (v := 8) hM d_Wo_init_28 (by decide) ?_
  obtain ⟨c28, F⟩ := F
  obtain ⟨c29, F⟩ := F
  obtain ⟨h6, eh6⟩ : ∃ z : Hp, z = wA h5 50 8 8 := ⟨_, rfl⟩
  replace F := F h6 eh6
  refine x_newI hG hM (N := 8) w_63 d_Wo_init_30 (by decide) rfl c28 c29 ?_
  rw [← eh6]
  clear eh6
  obtain ⟨c27, F⟩ := F
  obtain ⟨h7, eh7⟩ : ∃ z : Hp, z = wR h6 v0 4 (some (kX h5)) := ⟨_, rfl⟩
  replace F := F h7 eh7
  refine x_putr hG hM ck_Wo 4 (Nat.le_of_ble_eq_true rfl) (Or.inr ⟨_, rfl⟩) rfl w_142 rfl d_Wo_init_32 (Or.inr ⟨rfl, rfl, rfl⟩) c27 ?_
  rw [← eh7]
  clear eh7
  refine x_aload_n hM d_Wo_init_35 rfl 0 rfl ?_
  refine x_bipush (v := 12) hM d_Wo_init_36 (by decide) ?_
  obtain ⟨c25, F⟩ := F
  obtain ⟨c26, F⟩ := F
  obtain ⟨h8, eh8⟩ : ∃ z : Hp, z = wA h7 53 12 12 := ⟨_, rfl⟩
  replace F := F h8 eh8
  refine x_anew hG hM 53 (N := 12) rfl w_30 w_31 rfl (Nat.le_of_ble_eq_true rfl) d_Wo_init_38 (by decide) rfl c25 c26 ?_
  rw [← eh8]
  clear eh8
  obtain ⟨c24, F⟩ := F
  obtain ⟨h9, eh9⟩ : ∃ z : Hp, z = wR h8 v0 5 (some (kX h7)) := ⟨_, rfl⟩
  replace F := F h9 eh9
  refine x_putr hG hM ck_Wo 5 (Nat.le_of_ble_eq_true rfl) (Or.inr ⟨_, rfl⟩) rfl w_143 rfl d_Wo_init_41 (Or.inr ⟨rfl, rfl, rfl⟩) c24 ?_
  rw [← eh9]
  clear eh9
  refine x_aload_n hM d_Wo_init_44 rfl 0 rfl ?_
  refine x_iconst (v := 0) hM d_Wo_init_45 (by decide) ?_
  obtain ⟨c22, F⟩ := F
  obtain ⟨c23, F⟩ := F
  obtain ⟨h10, eh10⟩ : ∃ z : Hp, z = wA h9 50 0 0 := ⟨_, rfl⟩
  replace F := F h10 eh10
  refine x_newI hG hM (N := 0) w_63 d_Wo_init_46 (by decide) rfl c22 c23 ?_
  rw [← eh10]
  clear eh10
  obtain ⟨c21, F⟩ := F
  obtain ⟨h11, eh11⟩ : ∃ z : Hp, z = wR h10 v0 6 (some (kX h9)) := ⟨_, rfl⟩
  replace F := F h11 eh11
  refine x_putr hG hM ck_Wo 6 (Nat.le_of_ble_eq_true rfl) (Or.inr ⟨_, rfl⟩) rfl w_150 rfl d_Wo_init_48 (Or.inl rfl) c21 ?_
  rw [← eh11]
  clear eh11
  refine x_aload_n hM d_Wo_init_51 rfl 0 rfl ?_
  refine x_iconst (v := 0) hM d_Wo_init_52 (by decide) ?_
  obtain ⟨c19, F⟩ := F
  obtain ⟨c20, F⟩ := F
  obtain ⟨h12, eh12⟩ : ∃ z : Hp, z = wA h11 50 0 0 := ⟨_, rfl⟩
  replace F := F h12 eh12
  refine x_newI hG hM (N := 0) w_63 d_Wo_init_53 (by decide) rfl c19 c20 ?_
  rw [← eh12]
  clear eh12
  obtain ⟨c18, F⟩ := F
  obtain ⟨h13, eh13⟩ : ∃ z : Hp, z = wR h12 v0 7 (some (kX h11)) := ⟨_, rfl⟩
  replace F := F h13 eh13
  refine x_putr hG hM ck_Wo 7 (Nat.le_of_ble_eq_true rfl) (Or.inr ⟨_, rfl⟩) rfl w_156 rfl d_Wo_init_55 (Or.inl rfl) c18 ?_
  rw [← eh13]
  clear eh13
  refine x_aload_n hM d_Wo_init_58 rfl 0 rfl ?_
  refine x_iconst (v := 0) hM d_Wo_init_59 (by decide) ?_
  obtain ⟨c17, F⟩ := F
  obtain ⟨h14, eh14⟩ : ∃ z : Hp, z = wI h13 v0 8 0 := ⟨_, rfl⟩
  replace F := F h14 eh14
  refine x_putz hG hM ck_Wo 8 (Nat.le_of_ble_eq_true rfl) rfl rfl w_159 rfl d_Wo_init_60 (Or.inl rfl) c17 (Or.inl rfl) ?_
  rw [← eh14]
  clear eh14
  refine x_aload_n hM d_Wo_init_63 rfl 0 rfl ?_
  refine x_iconst (v := 0) hM d_Wo_init_64 (by decide) ?_
  obtain ⟨c16, F⟩ := F
  obtain ⟨h15, eh15⟩ : ∃ z : Hp, z = wI h14 v0 9 0 := ⟨_, rfl⟩
  replace F := F h15 eh15
  refine x_putz hG hM ck_Wo 9 (Nat.le_of_ble_eq_true rfl) rfl rfl w_160 rfl d_Wo_init_65 (Or.inl rfl) c16 (Or.inl rfl) ?_
  rw [← eh15]
  clear eh15
  refine x_iconst (v := 0) hM d_Wo_init_68 (by decide) ?_
  refine x_istore_n (lv2 := [(1, .int 0), (0, .ref v0)]) hM d_Wo_init_69 rfl (Nat.le_of_ble_eq_true rfl) rfl ?_
  refine x_sub [1, 0] rfl ?_
  exact F
set_option maxRecDepth 100000 in
set_option maxHeartbeats 4000000 in
theorem S_Wo_init_70 {G : Gc} {M : Mc} {Q : State → Prop} {K : Option Value → Hp → Prop} (hG : gok G) (hM : mok G M r_Wo_init Q K) (v0 : Nat) (v1 : Int32) (h : Hp) (F : (12 ≤ v1 → K none h) ∧ (¬ 12 ≤ v1 → (kT h v0 = 2 ∧ kR h v0 5 = some (rf h v0 5) ∧ (kX h + 1 ≤ gB G + capC ∧ kS h + 4 ≤ capS ∧ (∀ h1 : Hp, h1 = wA h 3 0 4 → (sem G r_Ac_init [.ref (kX h)] h1 (fun u3 h2 => u3 = none ∧ (kT h2 (rf h v0 5) = 53 ∧ kT h2 (kX h) = 3 ∧ vp_in v1 (kN h2 (rf h v0 5)) ∧ (∀ h4 : Hp, h4 = wR h2 (rf h v0 5) (Int32.toNatClampNeg v1) (some (kX h)) → X G M Q 70 [(0, .ref v0), (1, .int (v1 + 1))] [] h4))))))))) : X G M Q 70 [(0, .ref v0), (1, .int v1)] [] h := by
  refine x_iload_n hM d_Wo_init_70 rfl 1 rfl ?_
  refine x_bipush (v := 12) hM d_Wo_init_71 (by decide) ?_
  refine x_icmp_ge (tgt := 95) hM d_Wo_init_73 (by decide) (fun q12 => ?_) (fun q12 => ?_)
  · replace F := F.1 q12
    exact x_return hM d_Wo_init_95 rfl F
  · replace F := F.2 q12
    refine x_aload_n hM d_Wo_init_76 rfl 0 rfl ?_
    obtain ⟨c10, F⟩ := F
    obtain ⟨c11, F⟩ := F
    refine x_getr hG hM ck_Wo 5 (Nat.le_of_ble_eq_true rfl) rfl rfl w_143 rfl d_Wo_init_77 c10 c11 ?_
    refine x_iload_n hM d_Wo_init_80 rfl 1 rfl ?_
    obtain ⟨c8, F⟩ := F
    obtain ⟨c9, F⟩ := F
    obtain ⟨h1, eh1⟩ : ∃ z : Hp, z = wA h 3 0 4 := ⟨_, rfl⟩
    replace F := F h1 eh1
    refine x_new hG hM ck_Ac rfl w_30 w_32 w_3 dv_Ac d_Wo_init_81 c8 c9 ?_
    rw [← eh1]
    clear eh1
    refine x_dup hM d_Wo_init_84 rfl ?_
    refine x_callI hG hM (r' := r_Ac_init) [] rfl yk_Ac_init rfl rfl ⟨Nat.le_of_ble_eq_true rfl, Nat.le_of_ble_eq_true rfl⟩ w_33 w_34 rfl rfl (Nat.le_of_ble_eq_true rfl) d_Wo_init_85 (sem_mono F ?_)
    intro u3 h2 F
    obtain ⟨rfl, F⟩ := F
    obtain ⟨c5, F⟩ := F
    obtain ⟨c6, F⟩ := F
    obtain ⟨c7, F⟩ := F
    obtain ⟨h4, eh4⟩ : ∃ z : Hp, z = wR h2 (rf h v0 5) (Int32.toNatClampNeg v1) (some (kX h)) := ⟨_, rfl⟩
    replace F := F h4 eh4
    refine x_aastore hG hM 53 2 rfl (Nat.le_of_ble_eq_true rfl) rfl (Nat.le_of_ble_eq_true rfl) d_Wo_init_88 c5 c6 c7 ?_
    rw [← eh4]
    clear eh4
    refine x_iinc (v := (v1 + 1)) (lv2 := [(1, .int (v1 + 1)), (0, .ref v0)]) hM d_Wo_init_89 (j := 1) rfl rfl (Nat.le_of_ble_eq_true rfl) rfl ?_
    refine x_goto (tgt := 70) hM d_Wo_init_92 (by decide) ?_
    refine x_sub [1, 0] rfl ?_
    exact F
theorem d_Wo_forget_0 : decode b_Wo_forget 0 = .ok (.aload_n 0, 1) := by decide +kernel
theorem d_Wo_forget_1 : decode b_Wo_forget 1 = .ok (.iconst 0, 1) := by decide +kernel
theorem d_Wo_forget_2 : decode b_Wo_forget 2 = .ok (.putfield 9, 3) := by decide +kernel
theorem d_Wo_forget_5 : decode b_Wo_forget 5 = .ok (.aload_n 0, 1) := by decide +kernel
theorem d_Wo_forget_6 : decode b_Wo_forget 6 = .ok (.iconst 1, 1) := by decide +kernel
theorem d_Wo_forget_7 : decode b_Wo_forget 7 = .ok (.putfield 15, 3) := by decide +kernel
theorem d_Wo_forget_10 : decode b_Wo_forget 10 = .ok (.aload_n 0, 1) := by decide +kernel
theorem d_Wo_forget_11 : decode b_Wo_forget 11 = .ok (.iconst 0, 1) := by decide +kernel
theorem d_Wo_forget_12 : decode b_Wo_forget 12 = .ok (.putfield 18, 3) := by decide +kernel
theorem d_Wo_forget_15 : decode b_Wo_forget 15 = .ok (.aload_n 0, 1) := by decide +kernel
theorem d_Wo_forget_16 : decode b_Wo_forget 16 = .ok (.iconst 0, 1) := by decide +kernel
theorem d_Wo_forget_17 : decode b_Wo_forget 17 = .ok (.putfield 40, 3) := by decide +kernel
theorem d_Wo_forget_20 : decode b_Wo_forget 20 = .ok (.aload_n 0, 1) := by decide +kernel
theorem d_Wo_forget_21 : decode b_Wo_forget 21 = .ok (.iconst 0, 1) := by decide +kernel
theorem d_Wo_forget_22 : decode b_Wo_forget 22 = .ok (.putfield 44, 3) := by decide +kernel
theorem d_Wo_forget_25 : decode b_Wo_forget 25 = .ok (.return_, 1) := by decide +kernel
set_option maxRecDepth 100000 in
set_option maxHeartbeats 4000000 in
theorem S_Wo_forget_0 {G : Gc} {M : Mc} {Q : State → Prop} {K : Option Value → Hp → Prop} (hG : gok G) (hM : mok G M r_Wo_forget Q K) (v0 : Nat) (h : Hp) (F : kT h v0 = 2 ∧ (∀ h1 : Hp, h1 = wI h v0 0 0 → (kT h1 v0 = 2 ∧ (∀ h2 : Hp, h2 = wI h1 v0 1 1 → (kT h2 v0 = 2 ∧ (∀ h3 : Hp, h3 = wI h2 v0 2 0 → (kT h3 v0 = 2 ∧ (∀ h4 : Hp, h4 = wI h3 v0 8 0 → (kT h4 v0 = 2 ∧ (∀ h5 : Hp, h5 = wI h4 v0 9 0 → K none h5)))))))))) : X G M Q 0 [(0, .ref v0)] [] h := by
  refine x_aload_n hM d_Wo_forget_0 rfl 0 rfl ?_
  refine x_iconst (v := 0) hM d_Wo_forget_1 (by decide) ?_
  obtain ⟨c10, F⟩ := F
  obtain ⟨h1, eh1⟩ : ∃ z : Hp, z = wI h v0 0 0 := ⟨_, rfl⟩
  replace F := F h1 eh1
  refine x_puti hG hM ck_Wo 0 (Nat.le_of_ble_eq_true rfl) rfl rfl w_123 rfl d_Wo_forget_2 (Or.inl rfl) c10 ?_
  rw [← eh1]
  clear eh1
  refine x_aload_n hM d_Wo_forget_5 rfl 0 rfl ?_
  refine x_iconst (v := 1) hM d_Wo_forget_6 (by decide) ?_
  obtain ⟨c9, F⟩ := F
  obtain ⟨h2, eh2⟩ : ∃ z : Hp, z = wI h1 v0 1 1 := ⟨_, rfl⟩
  replace F := F h2 eh2
  refine x_puti hG hM ck_Wo 1 (Nat.le_of_ble_eq_true rfl) rfl rfl w_125 rfl d_Wo_forget_7 (Or.inl rfl) c9 ?_
  rw [← eh2]
  clear eh2
  refine x_aload_n hM d_Wo_forget_10 rfl 0 rfl ?_
  refine x_iconst (v := 0) hM d_Wo_forget_11 (by decide) ?_
  obtain ⟨c8, F⟩ := F
  obtain ⟨h3, eh3⟩ : ∃ z : Hp, z = wI h2 v0 2 0 := ⟨_, rfl⟩
  replace F := F h3 eh3
  refine x_puti hG hM ck_Wo 2 (Nat.le_of_ble_eq_true rfl) rfl rfl w_133 rfl d_Wo_forget_12 (Or.inl rfl) c8 ?_
  rw [← eh3]
  clear eh3
  refine x_aload_n hM d_Wo_forget_15 rfl 0 rfl ?_
  refine x_iconst (v := 0) hM d_Wo_forget_16 (by decide) ?_
  obtain ⟨c7, F⟩ := F
  obtain ⟨h4, eh4⟩ : ∃ z : Hp, z = wI h3 v0 8 0 := ⟨_, rfl⟩
  replace F := F h4 eh4
  refine x_putz hG hM ck_Wo 8 (Nat.le_of_ble_eq_true rfl) rfl rfl w_159 rfl d_Wo_forget_17 (Or.inl rfl) c7 (Or.inl rfl) ?_
  rw [← eh4]
  clear eh4
  refine x_aload_n hM d_Wo_forget_20 rfl 0 rfl ?_
  refine x_iconst (v := 0) hM d_Wo_forget_21 (by decide) ?_
  obtain ⟨c6, F⟩ := F
  obtain ⟨h5, eh5⟩ : ∃ z : Hp, z = wI h4 v0 9 0 := ⟨_, rfl⟩
  replace F := F h5 eh5
  refine x_putz hG hM ck_Wo 9 (Nat.le_of_ble_eq_true rfl) rfl rfl w_160 rfl d_Wo_forget_22 (Or.inl rfl) c6 (Or.inl rfl) ?_
  rw [← eh5]
  clear eh5
  exact x_return hM d_Wo_forget_25 rfl F
theorem d_Wo_addThing_0 : decode b_Wo_addThing 0 = .ok (.aload_n 0, 1) := by decide +kernel
theorem d_Wo_addThing_1 : decode b_Wo_addThing 1 = .ok (.getfield 9, 3) := by decide +kernel
theorem d_Wo_addThing_4 : decode b_Wo_addThing 4 = .ok (.bipush 8, 2) := by decide +kernel
theorem d_Wo_addThing_6 : decode b_Wo_addThing 6 = .ok (.if_icmp .ge 15, 3) := by decide +kernel
theorem d_Wo_addThing_9 : decode b_Wo_addThing 9 = .ok (.aload_n 0, 1) := by decide +kernel
theorem d_Wo_addThing_10 : decode b_Wo_addThing 10 = .ok (.getfield 15, 3) := by decide +kernel
theorem d_Wo_addThing_13 : decode b_Wo_addThing 13 = .ok (.iload_n 1, 1) := by decide +kernel
theorem d_Wo_addThing_14 : decode b_Wo_addThing 14 = .ok (.imul, 1) := by decide +kernel
theorem d_Wo_addThing_15 : decode b_Wo_addThing 15 = .ok (.sipush 4096, 3) := by decide +kernel
theorem d_Wo_addThing_18 : decode b_Wo_addThing 18 = .ok (.if_icmp .le 6, 3) := by decide +kernel
theorem d_Wo_addThing_21 : decode b_Wo_addThing 21 = .ok (.bipush (-3), 2) := by decide +kernel
theorem d_Wo_addThing_23 : decode b_Wo_addThing 23 = .ok (.ireturn, 1) := by decide +kernel
theorem d_Wo_addThing_24 : decode b_Wo_addThing 24 = .ok (.aload_n 0, 1) := by decide +kernel
theorem d_Wo_addThing_25 : decode b_Wo_addThing 25 = .ok (.getfield 21, 3) := by decide +kernel
theorem d_Wo_addThing_28 : decode b_Wo_addThing 28 = .ok (.aload_n 0, 1) := by decide +kernel
theorem d_Wo_addThing_29 : decode b_Wo_addThing 29 = .ok (.getfield 9, 3) := by decide +kernel
theorem d_Wo_addThing_32 : decode b_Wo_addThing 32 = .ok (.iload_n 1, 1) := by decide +kernel
theorem d_Wo_addThing_33 : decode b_Wo_addThing 33 = .ok (.iastore, 1) := by decide +kernel
theorem d_Wo_addThing_34 : decode b_Wo_addThing 34 = .ok (.aload_n 0, 1) := by decide +kernel
theorem d_Wo_addThing_35 : decode b_Wo_addThing 35 = .ok (.getfield 25, 3) := by decide +kernel
theorem d_Wo_addThing_38 : decode b_Wo_addThing 38 = .ok (.aload_n 0, 1) := by decide +kernel
theorem d_Wo_addThing_39 : decode b_Wo_addThing 39 = .ok (.getfield 9, 3) := by decide +kernel
theorem d_Wo_addThing_42 : decode b_Wo_addThing 42 = .ok (.aload_n 0, 1) := by decide +kernel
theorem d_Wo_addThing_43 : decode b_Wo_addThing 43 = .ok (.getfield 15, 3) := by decide +kernel
theorem d_Wo_addThing_46 : decode b_Wo_addThing 46 = .ok (.iastore, 1) := by decide +kernel
theorem d_Wo_addThing_47 : decode b_Wo_addThing 47 = .ok (.aload_n 0, 1) := by decide +kernel
theorem d_Wo_addThing_48 : decode b_Wo_addThing 48 = .ok (.dup, 1) := by decide +kernel
theorem d_Wo_addThing_49 : decode b_Wo_addThing 49 = .ok (.getfield 15, 3) := by decide +kernel
theorem d_Wo_addThing_52 : decode b_Wo_addThing 52 = .ok (.iload_n 1, 1) := by decide +kernel
theorem d_Wo_addThing_53 : decode b_Wo_addThing 53 = .ok (.imul, 1) := by decide +kernel
theorem d_Wo_addThing_54 : decode b_Wo_addThing 54 = .ok (.putfield 15, 3) := by decide +kernel
theorem d_Wo_addThing_57 : decode b_Wo_addThing 57 = .ok (.aload_n 0, 1) := by decide +kernel
theorem d_Wo_addThing_58 : decode b_Wo_addThing 58 = .ok (.dup, 1) := by decide +kernel
theorem d_Wo_addThing_59 : decode b_Wo_addThing 59 = .ok (.getfield 9, 3) := by decide +kernel
theorem d_Wo_addThing_62 : decode b_Wo_addThing 62 = .ok (.iconst 1, 1) := by decide +kernel
theorem d_Wo_addThing_63 : decode b_Wo_addThing 63 = .ok (.iadd, 1) := by decide +kernel
theorem d_Wo_addThing_64 : decode b_Wo_addThing 64 = .ok (.putfield 9, 3) := by decide +kernel
theorem d_Wo_addThing_67 : decode b_Wo_addThing 67 = .ok (.aload_n 0, 1) := by decide +kernel
theorem d_Wo_addThing_68 : decode b_Wo_addThing 68 = .ok (.iconst 0, 1) := by decide +kernel
theorem d_Wo_addThing_69 : decode b_Wo_addThing 69 = .ok (.putfield 40, 3) := by decide +kernel
theorem d_Wo_addThing_72 : decode b_Wo_addThing 72 = .ok (.aload_n 0, 1) := by decide +kernel
theorem d_Wo_addThing_73 : decode b_Wo_addThing 73 = .ok (.iconst 0, 1) := by decide +kernel
theorem d_Wo_addThing_74 : decode b_Wo_addThing 74 = .ok (.putfield 44, 3) := by decide +kernel
theorem d_Wo_addThing_77 : decode b_Wo_addThing 77 = .ok (.aload_n 0, 1) := by decide +kernel
theorem d_Wo_addThing_78 : decode b_Wo_addThing 78 = .ok (.getfield 9, 3) := by decide +kernel
theorem d_Wo_addThing_81 : decode b_Wo_addThing 81 = .ok (.iconst 1, 1) := by decide +kernel
theorem d_Wo_addThing_82 : decode b_Wo_addThing 82 = .ok (.isub, 1) := by decide +kernel
theorem d_Wo_addThing_83 : decode b_Wo_addThing 83 = .ok (.ireturn, 1) := by decide +kernel
set_option maxRecDepth 100000 in
set_option maxHeartbeats 4000000 in
theorem S_Wo_addThing_0 {G : Gc} {M : Mc} {Q : State → Prop} {K : Option Value → Hp → Prop} (hG : gok G) (hM : mok G M r_Wo_addThing Q K) (v0 : Nat) (v1 : Int32) (h : Hp) (F : kT h v0 = 2 ∧ ((8 ≤ (kI h v0 0) → K (some (.int (-3))) h) ∧ (¬ 8 ≤ (kI h v0 0) → (kT h v0 = 2 ∧ ((((kI h v0 1) * v1) ≤ 4096 → (kT h v0 = 2 ∧ kR h v0 3 = some (rf h v0 3) ∧ (kT h v0 = 2 ∧ (kT h (rf h v0 3) = 50 ∧ vp_in (kI h v0 0) (kN h (rf h v0 3)) ∧ (∀ h1 : Hp, h1 = wI h (rf h v0 3) (Int32.toNatClampNeg (kI h v0 0)) v1 → (kT h1 v0 = 2 ∧ kR h1 v0 4 = some (rf h1 v0 4) ∧ (kT h1 v0 = 2 ∧ (kT h1 v0 = 2 ∧ (kT h1 (rf h1 v0 4) = 50 ∧ vp_in (kI h1 v0 0) (kN h1 (rf h1 v0 4)) ∧ (∀ h2 : Hp, h2 = wI h1 (rf h1 v0 4) (Int32.toNatClampNeg (kI h1 v0 0)) (kI h1 v0 1) → (kT h2 v0 = 2 ∧ (kT h2 v0 = 2 ∧ (∀ h3 : Hp, h3 = wI h2 v0 1 ((kI h2 v0 1) * v1) → (kT h3 v0 = 2 ∧ (kT h3 v0 = 2 ∧ (∀ h4 : Hp, h4 = wI h3 v0 0 ((kI h3 v0 0) + 1) → (kT h4 v0 = 2 ∧ (∀ h5 : Hp, h5 = wI h4 v0 8 0 → (kT h5 v0 = 2 ∧ (∀ h6 : Hp, h6 = wI h5 v0 9 0 → (kT h6 v0 = 2 ∧ K (some (.int ((kI h6 v0 0) - 1))) h6))))))))))))))))))))) ∧ (¬ ((kI h v0 1) * v1) ≤ 4096 → K (some (.int (-3))) h)))))) : X G M Q 0 [(0, .ref v0), (1, .int v1)] [] h := by
  refine x_aload_n hM d_Wo_addThing_0 rfl 0 rfl ?_
  obtain ⟨c28, F⟩ := F
  refine x_geti hG hM ck_Wo 0 (Nat.le_of_ble_eq_true rfl) rfl rfl w_123 rfl d_Wo_addThing_1 c28 ?_
  refine x_bipush (v := 8) hM d_Wo_addThing_4 (by decide) ?_
  refine x_icmp_ge (tgt := 21) hM d_Wo_addThing_6 (by decide) (fun q27 => ?_) (fun q27 => ?_)
  · replace F := F.1 q27
    refine x_bipush (v := (-3)) hM d_Wo_addThing_21 (by decide) ?_
    exact x_ireturn hM d_Wo_addThing_23 rfl F
  · replace F := F.2 q27
    refine x_aload_n hM d_Wo_addThing_9 rfl 0 rfl ?_
    obtain ⟨c26, F⟩ := F
    refine x_geti hG hM ck_Wo 1 (Nat.le_of_ble_eq_true rfl) rfl rfl w_125 rfl d_Wo_addThing_10 c26 ?_
    refine x_iload_n hM d_Wo_addThing_13 rfl 1 rfl ?_
    refine x_imul hM d_Wo_addThing_14 ?_
    refine x_sipush (v := 4096) hM d_Wo_addThing_15 (by decide) ?_
    refine x_icmp_le (tgt := 24) hM d_Wo_addThing_18 (by decide) (fun q25 => ?_) (fun q25 => ?_)
    · replace F := F.1 q25
      refine x_aload_n hM d_Wo_addThing_24 rfl 0 rfl ?_
      obtain ⟨c23, F⟩ := F
      obtain ⟨c24, F⟩ := F
      refine x_getr hG hM ck_Wo 3 (Nat.le_of_ble_eq_true rfl) rfl rfl w_140 rfl d_Wo_addThing_25 c23 c24 ?_
      refine x_aload_n hM d_Wo_addThing_28 rfl 0 rfl ?_
      obtain ⟨c22, F⟩ := F
      refine x_geti hG hM ck_Wo 0 (Nat.le_of_ble_eq_true rfl) rfl rfl w_123 rfl d_Wo_addThing_29 c22 ?_
      refine x_iload_n hM d_Wo_addThing_32 rfl 1 rfl ?_
      obtain ⟨c20, F⟩ := F
      obtain ⟨c21, F⟩ := F
      obtain ⟨h1, eh1⟩ : ∃ z : Hp, z = wI h (rf h v0 3) (Int32.toNatClampNeg (kI h v0 0)) v1 := ⟨_, rfl⟩
      replace F := F h1 eh1
      refine x_iastore hG hM d_Wo_addThing_33 c20 c21 ?_
      rw [← eh1]
      clear eh1
      refine x_aload_n hM d_Wo_addThing_34 rfl 0 rfl ?_
      obtain ⟨c18, F⟩ := F
      obtain ⟨c19, F⟩ := F
      refine x_getr hG hM ck_Wo 4 (Nat.le_of_ble_eq_true rfl) rfl rfl w_142 rfl d_Wo_addThing_35 c18 c19 ?_
      refine x_aload_n hM d_Wo_addThing_38 rfl 0 rfl ?_
      obtain ⟨c17, F⟩ := F
      refine x_geti hG hM ck_Wo 0 (Nat.le_of_ble_eq_true rfl) rfl rfl w_123 rfl d_Wo_addThing_39 c17 ?_
      refine x_aload_n hM d_Wo_addThing_42 rfl 0 rfl ?_
      obtain ⟨c16, F⟩ := F
      refine x_geti hG hM ck_Wo 1 (Nat.le_of_ble_eq_true rfl) rfl rfl w_125 rfl d_Wo_addThing_43 c16 ?_
      obtain ⟨c14, F⟩ := F
      obtain ⟨c15, F⟩ := F
      obtain ⟨h2, eh2⟩ : ∃ z : Hp, z = wI h1 (rf h1 v0 4) (Int32.toNatClampNeg (kI h1 v0 0)) (kI h1 v0 1) := ⟨_, rfl⟩
      replace F := F h2 eh2
      refine x_iastore hG hM d_Wo_addThing_46 c14 c15 ?_
      rw [← eh2]
      clear eh2
      refine x_aload_n hM d_Wo_addThing_47 rfl 0 rfl ?_
      refine x_dup hM d_Wo_addThing_48 rfl ?_
      obtain ⟨c13, F⟩ := F
      refine x_geti hG hM ck_Wo 1 (Nat.le_of_ble_eq_true rfl) rfl rfl w_125 rfl d_Wo_addThing_49 c13 ?_
      refine x_iload_n hM d_Wo_addThing_52 rfl 1 rfl ?_
      refine x_imul hM d_Wo_addThing_53 ?_
      obtain ⟨c12, F⟩ := F
      obtain ⟨h3, eh3⟩ : ∃ z : Hp, z = wI h2 v0 1 ((kI h2 v0 1) * v1) := ⟨_, rfl⟩
      replace F := F h3 eh3
      refine x_puti hG hM ck_Wo 1 (Nat.le_of_ble_eq_true rfl) rfl rfl w_125 rfl d_Wo_addThing_54 (Or.inl rfl) c12 ?_
      rw [← eh3]
      clear eh3
      refine x_aload_n hM d_Wo_addThing_57 rfl 0 rfl ?_
      refine x_dup hM d_Wo_addThing_58 rfl ?_
      obtain ⟨c11, F⟩ := F
      refine x_geti hG hM ck_Wo 0 (Nat.le_of_ble_eq_true rfl) rfl rfl w_123 rfl d_Wo_addThing_59 c11 ?_
      refine x_iconst (v := 1) hM d_Wo_addThing_62 (by decide) ?_
      refine x_iadd hM d_Wo_addThing_63 ?_
      obtain ⟨c10, F⟩ := F
      obtain ⟨h4, eh4⟩ : ∃ z : Hp, z = wI h3 v0 0 ((kI h3 v0 0) + 1) := ⟨_, rfl⟩
      replace F := F h4 eh4
      refine x_puti hG hM ck_Wo 0 (Nat.le_of_ble_eq_true rfl) rfl rfl w_123 rfl d_Wo_addThing_64 (Or.inl rfl) c10 ?_
      rw [← eh4]
      clear eh4
      refine x_aload_n hM d_Wo_addThing_67 rfl 0 rfl ?_
      refine x_iconst (v := 0) hM d_Wo_addThing_68 (by decide) ?_
      obtain ⟨c9, F⟩ := F
      obtain ⟨h5, eh5⟩ : ∃ z : Hp, z = wI h4 v0 8 0 := ⟨_, rfl⟩
      replace F := F h5 eh5
      refine x_putz hG hM ck_Wo 8 (Nat.le_of_ble_eq_true rfl) rfl rfl w_159 rfl d_Wo_addThing_69 (Or.inl rfl) c9 (Or.inl rfl) ?_
      rw [← eh5]
      clear eh5
      refine x_aload_n hM d_Wo_addThing_72 rfl 0 rfl ?_
      refine x_iconst (v := 0) hM d_Wo_addThing_73 (by decide) ?_
      obtain ⟨c8, F⟩ := F
      obtain ⟨h6, eh6⟩ : ∃ z : Hp, z = wI h5 v0 9 0 := ⟨_, rfl⟩
      replace F := F h6 eh6
      refine x_putz hG hM ck_Wo 9 (Nat.le_of_ble_eq_true rfl) rfl rfl w_160 rfl d_Wo_addThing_74 (Or.inl rfl) c8 (Or.inl rfl) ?_
      rw [← eh6]
      clear eh6
      refine x_aload_n hM d_Wo_addThing_77 rfl 0 rfl ?_
      obtain ⟨c7, F⟩ := F
      refine x_geti hG hM ck_Wo 0 (Nat.le_of_ble_eq_true rfl) rfl rfl w_123 rfl d_Wo_addThing_78 c7 ?_
      refine x_iconst (v := 1) hM d_Wo_addThing_81 (by decide) ?_
      refine x_isub hM d_Wo_addThing_82 ?_
      exact x_ireturn hM d_Wo_addThing_83 rfl F
    · replace F := F.2 q25
      refine x_bipush (v := (-3)) hM d_Wo_addThing_21 (by decide) ?_
      exact x_ireturn hM d_Wo_addThing_23 rfl F
theorem d_Wo_isState_0 : decode b_Wo_isState 0 = .ok (.iload_n 1, 1) := by decide +kernel
theorem d_Wo_isState_1 : decode b_Wo_isState 1 = .ok (.ifCond .lt 15, 3) := by decide +kernel
theorem d_Wo_isState_4 : decode b_Wo_isState 4 = .ok (.iload_n 1, 1) := by decide +kernel
theorem d_Wo_isState_5 : decode b_Wo_isState 5 = .ok (.aload_n 0, 1) := by decide +kernel
theorem d_Wo_isState_6 : decode b_Wo_isState 6 = .ok (.getfield 15, 3) := by decide +kernel
theorem d_Wo_isState_9 : decode b_Wo_isState 9 = .ok (.if_icmp .ge 7, 3) := by decide +kernel
theorem d_Wo_isState_12 : decode b_Wo_isState 12 = .ok (.iconst 1, 1) := by decide +kernel
theorem d_Wo_isState_13 : decode b_Wo_isState 13 = .ok (.goto 4, 3) := by decide +kernel
theorem d_Wo_isState_16 : decode b_Wo_isState 16 = .ok (.iconst 0, 1) := by decide +kernel
theorem d_Wo_isState_17 : decode b_Wo_isState 17 = .ok (.ireturn, 1) := by decide +kernel
set_option maxRecDepth 100000 in
set_option maxHeartbeats 4000000 in
theorem S_Wo_isState_0 {G : Gc} {M : Mc} {Q : State → Prop} {K : Option Value → Hp → Prop} (hG : gok G) (hM : mok G M r_Wo_isState Q K) (v0 : Nat) (v1 : Int32) (h : Hp) (F : (¬ v1 < 0 → kT h v0 = 2) ∧ (∀ z1 : Int32, z1 = (if v1 < 0 then 0 else (if (kI h v0 1) ≤ v1 then 0 else 1)) → (nb z1 ∧ K (some (.int z1)) h))) : X G M Q 0 [(0, .ref v0), (1, .int v1)] [] h := by
  refine x_iload_n hM d_Wo_isState_0 rfl 1 rfl ?_
  obtain ⟨S, F⟩ := F
  have JJ : ∀ (z1 : Int32) (ez1 : z1 = (if v1 < 0 then 0 else (if (kI h v0 1) ≤ v1 then 0 else 1))), X G M Q 17 [] [.int z1] h := by
    intro z1 ez1
    replace F := F _ ez1
    exact x_zreturn hM d_Wo_isState_17 rfl F.1 F.2
  refine x_if_lt (tgt := 16) hM d_Wo_isState_1 (by decide) (fun q2 => ?_) (fun q2 => ?_)
  · refine x_iconst (v := 0) hM d_Wo_isState_16 (by decide) ?_
    refine x_sub [] rfl ?_
    exact JJ _ (Eq.symm (if_pos q2))
  · replace S := S q2
    refine x_iload_n hM d_Wo_isState_4 rfl 1 rfl ?_
    refine x_aload_n hM d_Wo_isState_5 rfl 0 rfl ?_
    have c3 := S
    refine x_geti hG hM ck_Wo 1 (Nat.le_of_ble_eq_true rfl) rfl rfl w_125 rfl d_Wo_isState_6 c3 ?_
    refine x_icmp_ge (tgt := 16) hM d_Wo_isState_9 (by decide) (fun q4 => ?_) (fun q4 => ?_)
    · refine x_iconst (v := 0) hM d_Wo_isState_16 (by decide) ?_
      refine x_sub [] rfl ?_
      exact JJ _ (Eq.symm (Eq.trans (if_neg q2) (if_pos q4)))
    · refine x_iconst (v := 1) hM d_Wo_isState_12 (by decide) ?_
      refine x_goto (tgt := 17) hM d_Wo_isState_13 (by decide) ?_
      refine x_sub [] rfl ?_
      exact JJ _ (Eq.symm (Eq.trans (if_neg q2) (if_neg q4)))
theorem d_Wo_addAct_0 : decode b_Wo_addAct 0 = .ok (.aload_n 0, 1) := by decide +kernel
theorem d_Wo_addAct_1 : decode b_Wo_addAct 1 = .ok (.getfield 18, 3) := by decide +kernel
theorem d_Wo_addAct_4 : decode b_Wo_addAct 4 = .ok (.bipush 12, 2) := by decide +kernel
theorem d_Wo_addAct_6 : decode b_Wo_addAct 6 = .ok (.if_icmp .lt 6, 3) := by decide +kernel
theorem d_Wo_addAct_9 : decode b_Wo_addAct 9 = .ok (.bipush (-3), 2) := by decide +kernel
theorem d_Wo_addAct_11 : decode b_Wo_addAct 11 = .ok (.ireturn, 1) := by decide +kernel
theorem d_Wo_addAct_12 : decode b_Wo_addAct 12 = .ok (.aload_n 0, 1) := by decide +kernel
theorem d_Wo_addAct_13 : decode b_Wo_addAct 13 = .ok (.getfield 30, 3) := by decide +kernel
theorem d_Wo_addAct_16 : decode b_Wo_addAct 16 = .ok (.aload_n 0, 1) := by decide +kernel
theorem d_Wo_addAct_17 : decode b_Wo_addAct 17 = .ok (.getfield 18, 3) := by decide +kernel
theorem d_Wo_addAct_20 : decode b_Wo_addAct 20 = .ok (.aaload, 1) := by decide +kernel
theorem d_Wo_addAct_21 : decode b_Wo_addAct 21 = .ok (.invokevirtual 48, 3) := by decide +kernel
theorem d_Wo_addAct_24 : decode b_Wo_addAct 24 = .ok (.aload_n 0, 1) := by decide +kernel
theorem d_Wo_addAct_25 : decode b_Wo_addAct 25 = .ok (.dup, 1) := by decide +kernel
theorem d_Wo_addAct_26 : decode b_Wo_addAct 26 = .ok (.getfield 18, 3) := by decide +kernel
theorem d_Wo_addAct_29 : decode b_Wo_addAct 29 = .ok (.iconst 1, 1) := by decide +kernel
theorem d_Wo_addAct_30 : decode b_Wo_addAct 30 = .ok (.iadd, 1) := by decide +kernel
theorem d_Wo_addAct_31 : decode b_Wo_addAct 31 = .ok (.putfield 18, 3) := by decide +kernel
theorem d_Wo_addAct_34 : decode b_Wo_addAct 34 = .ok (.aload_n 0, 1) := by decide +kernel
theorem d_Wo_addAct_35 : decode b_Wo_addAct 35 = .ok (.iconst 0, 1) := by decide +kernel
theorem d_Wo_addAct_36 : decode b_Wo_addAct 36 = .ok (.putfield 44, 3) := by decide +kernel
theorem d_Wo_addAct_39 : decode b_Wo_addAct 39 = .ok (.aload_n 0, 1) := by decide +kernel
theorem d_Wo_addAct_40 : decode b_Wo_addAct 40 = .ok (.getfield 18, 3) := by decide +kernel
theorem d_Wo_addAct_43 : decode b_Wo_addAct 43 = .ok (.iconst 1, 1) := by decide +kernel
theorem d_Wo_addAct_44 : decode b_Wo_addAct 44 = .ok (.isub, 1) := by decide +kernel
theorem d_Wo_addAct_45 : decode b_Wo_addAct 45 = .ok (.ireturn, 1) := by decide +kernel
set_option maxRecDepth 100000 in
set_option maxHeartbeats 4000000 in
theorem S_Wo_addAct_0 {G : Gc} {M : Mc} {Q : State → Prop} {K : Option Value → Hp → Prop} (hG : gok G) (hM : mok G M r_Wo_addAct Q K) (v0 : Nat) (h : Hp) (F : kT h v0 = 2 ∧ (((kI h v0 2) < 12 → (kT h v0 = 2 ∧ kR h v0 5 = some (rf h v0 5) ∧ (kT h v0 = 2 ∧ (kT h (rf h v0 5) = 53 ∧ vp_in (kI h v0 2) (kN h (rf h v0 5)) ∧ kR h (rf h v0 5) (Int32.toNatClampNeg (kI h v0 2)) = some (rf h (rf h v0 5) (Int32.toNatClampNeg (kI h v0 2))) ∧ (kT h (rf h (rf h v0 5) (Int32.toNatClampNeg (kI h v0 2))) = 3 ∧ sem G r_Ac_beginAnew [.ref (rf h (rf h v0 5) (Int32.toNatClampNeg (kI h v0 2)))] h (fun u2 h1 => u2 = none ∧ (kT h1 v0 = 2 ∧ (kT h1 v0 = 2 ∧ (∀ h3 : Hp, h3 = wI h1 v0 2 ((kI h1 v0 2) + 1) → (kT h3 v0 = 2 ∧ (∀ h4 : Hp, h4 = wI h3 v0 9 0 → (kT h4 v0 = 2 ∧ K (some (.int ((kI h4 v0 2) - 1))) h4)))))))))))) ∧ (¬ (kI h v0 2) < 12 → K (some (.int (-3))) h))) : X G M Q 0 [(0, .ref v0)] [] h := by
  refine x_aload_n hM d_Wo_addAct_0 rfl 0 rfl ?_
  obtain ⟨c17, F⟩ := F
  refine x_geti hG hM ck_Wo 2 (Nat.le_of_ble_eq_true rfl) rfl rfl w_133 rfl d_Wo_addAct_1 c17 ?_
  refine x_bipush (v := 12) hM d_Wo_addAct_4 (by decide) ?_
  refine x_icmp_lt (tgt := 12) hM d_Wo_addAct_6 (by decide) (fun q16 => ?_) (fun q16 => ?_)
  · replace F := F.1 q16
    refine x_aload_n hM d_Wo_addAct_12 rfl 0 rfl ?_
    obtain ⟨c14, F⟩ := F
    obtain ⟨c15, F⟩ := F
    refine x_getr hG hM ck_Wo 5 (Nat.le_of_ble_eq_true rfl) rfl rfl w_143 rfl d_Wo_addAct_13 c14 c15 ?_
    refine x_aload_n hM d_Wo_addAct_16 rfl 0 rfl ?_
    obtain ⟨c13, F⟩ := F
    refine x_geti hG hM ck_Wo 2 (Nat.le_of_ble_eq_true rfl) rfl rfl w_133 rfl d_Wo_addAct_17 c13 ?_
    obtain ⟨c10, F⟩ := F
    obtain ⟨c11, F⟩ := F
    obtain ⟨c12, F⟩ := F
    refine x_aaload hG hM 53 rfl (Nat.le_of_ble_eq_true rfl) d_Wo_addAct_20 c10 c11 c12 ?_
    obtain ⟨c9, F⟩ := F
    refine x_callV hG hM (r' := r_Ac_beginAnew) (ci := 2) [] rfl rfl (Nat.le_of_ble_eq_true rfl) yk_Ac_beginAnew ⟨Nat.le_of_ble_eq_true rfl, Nat.le_of_ble_eq_true rfl⟩ w_476 w_477 w_478 rfl rfl (Nat.le_of_ble_eq_true rfl) d_Wo_addAct_21 c9 (sem_mono F ?_)
    intro u2 h1 F
    obtain ⟨rfl, F⟩ := F
    refine x_aload_n hM d_Wo_addAct_24 rfl 0 rfl ?_
    refine x_dup hM d_Wo_addAct_25 rfl ?_
    obtain ⟨c8, F⟩ := F
    refine x_geti hG hM ck_Wo 2 (Nat.le_of_ble_eq_true rfl) rfl rfl w_133 rfl d_Wo_addAct_26 c8 ?_
    refine x_iconst (v := 1) hM d_Wo_addAct_29 (by decide) ?_
    refine x_iadd hM d_Wo_addAct_30 ?_
    obtain ⟨c7, F⟩ := F
    obtain ⟨h3, eh3⟩ : ∃ z : Hp, z = wI h1 v0 2 ((kI h1 v0 2) + 1) := ⟨_, rfl⟩
    replace F := F h3 eh3
    refine x_puti hG hM ck_Wo 2 (Nat.le_of_ble_eq_true rfl) rfl rfl w_133 rfl d_Wo_addAct_31 (Or.inl rfl) c7 ?_
    rw [← eh3]
    clear eh3
    refine x_aload_n hM d_Wo_addAct_34 rfl 0 rfl ?_
    refine x_iconst (v := 0) hM d_Wo_addAct_35 (by decide) ?_
    obtain ⟨c6, F⟩ := F
    obtain ⟨h4, eh4⟩ : ∃ z : Hp, z = wI h3 v0 9 0 := ⟨_, rfl⟩
    replace F := F h4 eh4
    refine x_putz hG hM ck_Wo 9 (Nat.le_of_ble_eq_true rfl) rfl rfl w_160 rfl d_Wo_addAct_36 (Or.inl rfl) c6 (Or.inl rfl) ?_
    rw [← eh4]
    clear eh4
    refine x_aload_n hM d_Wo_addAct_39 rfl 0 rfl ?_
    obtain ⟨c5, F⟩ := F
    refine x_geti hG hM ck_Wo 2 (Nat.le_of_ble_eq_true rfl) rfl rfl w_133 rfl d_Wo_addAct_40 c5 ?_
    refine x_iconst (v := 1) hM d_Wo_addAct_43 (by decide) ?_
    refine x_isub hM d_Wo_addAct_44 ?_
    exact x_ireturn hM d_Wo_addAct_45 rfl F
  · replace F := F.2 q16
    refine x_bipush (v := (-3)) hM d_Wo_addAct_9 (by decide) ?_
    exact x_ireturn hM d_Wo_addAct_11 rfl F
theorem d_Wo_isAct_0 : decode b_Wo_isAct 0 = .ok (.iload_n 1, 1) := by decide +kernel
theorem d_Wo_isAct_1 : decode b_Wo_isAct 1 = .ok (.ifCond .lt 15, 3) := by decide +kernel
theorem d_Wo_isAct_4 : decode b_Wo_isAct 4 = .ok (.iload_n 1, 1) := by decide +kernel
theorem d_Wo_isAct_5 : decode b_Wo_isAct 5 = .ok (.aload_n 0, 1) := by decide +kernel
theorem d_Wo_isAct_6 : decode b_Wo_isAct 6 = .ok (.getfield 18, 3) := by decide +kernel
theorem d_Wo_isAct_9 : decode b_Wo_isAct 9 = .ok (.if_icmp .ge 7, 3) := by decide +kernel
theorem d_Wo_isAct_12 : decode b_Wo_isAct 12 = .ok (.iconst 1, 1) := by decide +kernel
theorem d_Wo_isAct_13 : decode b_Wo_isAct 13 = .ok (.goto 4, 3) := by decide +kernel
theorem d_Wo_isAct_16 : decode b_Wo_isAct 16 = .ok (.iconst 0, 1) := by decide +kernel
theorem d_Wo_isAct_17 : decode b_Wo_isAct 17 = .ok (.ireturn, 1) := by decide +kernel
set_option maxRecDepth 100000 in
set_option maxHeartbeats 4000000 in
theorem S_Wo_isAct_0 {G : Gc} {M : Mc} {Q : State → Prop} {K : Option Value → Hp → Prop} (hG : gok G) (hM : mok G M r_Wo_isAct Q K) (v0 : Nat) (v1 : Int32) (h : Hp) (F : (¬ v1 < 0 → kT h v0 = 2) ∧ (∀ z1 : Int32, z1 = (if v1 < 0 then 0 else (if (kI h v0 2) ≤ v1 then 0 else 1)) → (nb z1 ∧ K (some (.int z1)) h))) : X G M Q 0 [(0, .ref v0), (1, .int v1)] [] h := by
  refine x_iload_n hM d_Wo_isAct_0 rfl 1 rfl ?_
  obtain ⟨S, F⟩ := F
  have JJ : ∀ (z1 : Int32) (ez1 : z1 = (if v1 < 0 then 0 else (if (kI h v0 2) ≤ v1 then 0 else 1))), X G M Q 17 [] [.int z1] h := by
    intro z1 ez1
    replace F := F _ ez1
    exact x_zreturn hM d_Wo_isAct_17 rfl F.1 F.2
  refine x_if_lt (tgt := 16) hM d_Wo_isAct_1 (by decide) (fun q2 => ?_) (fun q2 => ?_)
  · refine x_iconst (v := 0) hM d_Wo_isAct_16 (by decide) ?_
    refine x_sub [] rfl ?_
    exact JJ _ (Eq.symm (if_pos q2))
  · replace S := S q2
    refine x_iload_n hM d_Wo_isAct_4 rfl 1 rfl ?_
    refine x_aload_n hM d_Wo_isAct_5 rfl 0 rfl ?_
    have c3 := S
    refine x_geti hG hM ck_Wo 2 (Nat.le_of_ble_eq_true rfl) rfl rfl w_133 rfl d_Wo_isAct_6 c3 ?_
    refine x_icmp_ge (tgt := 16) hM d_Wo_isAct_9 (by decide) (fun q4 => ?_) (fun q4 => ?_)
    · refine x_iconst (v := 0) hM d_Wo_isAct_16 (by decide) ?_
      refine x_sub [] rfl ?_
      exact JJ _ (Eq.symm (Eq.trans (if_neg q2) (if_pos q4)))
    · refine x_iconst (v := 1) hM d_Wo_isAct_12 (by decide) ?_
      refine x_goto (tgt := 17) hM d_Wo_isAct_13 (by decide) ?_
      refine x_sub [] rfl ?_
      exact JJ _ (Eq.symm (Eq.trans (if_neg q2) (if_neg q4)))
theorem d_Wo_isCondition_0 : decode b_Wo_isCondition 0 = .ok (.aload_n 0, 1) := by decide +kernel
theorem d_Wo_isCondition_1 : decode b_Wo_isCondition 1 = .ok (.iload_n 1, 1) := by decide +kernel
theorem d_Wo_isCondition_2 : decode b_Wo_isCondition 2 = .ok (.invokevirtual 58, 3) := by decide +kernel
theorem d_Wo_isCondition_5 : decode b_Wo_isCondition 5 = .ok (.ifCond .eq 12, 3) := by decide +kernel
theorem d_Wo_isCondition_8 : decode b_Wo_isCondition 8 = .ok (.iload_n 2, 1) := by decide +kernel
theorem d_Wo_isCondition_9 : decode b_Wo_isCondition 9 = .ok (.ifCond .lt 8, 3) := by decide +kernel
theorem d_Wo_isCondition_12 : decode b_Wo_isCondition 12 = .ok (.iload_n 2, 1) := by decide +kernel
theorem d_Wo_isCondition_13 : decode b_Wo_isCondition 13 = .ok (.iconst 3, 1) := by decide +kernel
theorem d_Wo_isCondition_14 : decode b_Wo_isCondition 14 = .ok (.if_icmp .le 5, 3) := by decide +kernel
theorem d_Wo_isCondition_17 : decode b_Wo_isCondition 17 = .ok (.iconst 0, 1) := by decide +kernel
theorem d_Wo_isCondition_18 : decode b_Wo_isCondition 18 = .ok (.ireturn, 1) := by decide +kernel
theorem d_Wo_isCondition_19 : decode b_Wo_isCondition 19 = .ok (.iload_n 2, 1) := by decide +kernel
theorem d_Wo_isCondition_20 : decode b_Wo_isCondition 20 = .ok (.iconst 2, 1) := by decide +kernel
theorem d_Wo_isCondition_21 : decode b_Wo_isCondition 21 = .ok (.if_icmp .ne 11, 3) := by decide +kernel
theorem d_Wo_isCondition_24 : decode b_Wo_isCondition 24 = .ok (.aload_n 0, 1) := by decide +kernel
theorem d_Wo_isCondition_25 : decode b_Wo_isCondition 25 = .ok (.iload_n 3, 1) := by decide +kernel
theorem d_Wo_isCondition_26 : decode b_Wo_isCondition 26 = .ok (.invokevirtual 58, 3) := by decide +kernel
theorem d_Wo_isCondition_29 : decode b_Wo_isCondition 29 = .ok (.goto 17, 3) := by decide +kernel
theorem d_Wo_isCondition_32 : decode b_Wo_isCondition 32 = .ok (.iload_n 3, 1) := by decide +kernel
theorem d_Wo_isCondition_33 : decode b_Wo_isCondition 33 = .ok (.ifCond .lt 12, 3) := by decide +kernel
theorem d_Wo_isCondition_36 : decode b_Wo_isCondition 36 = .ok (.iload_n 3, 1) := by decide +kernel
theorem d_Wo_isCondition_37 : decode b_Wo_isCondition 37 = .ok (.iconst 4, 1) := by decide +kernel
theorem d_Wo_isCondition_38 : decode b_Wo_isCondition 38 = .ok (.if_icmp .ge 7, 3) := by decide +kernel
theorem d_Wo_isCondition_41 : decode b_Wo_isCondition 41 = .ok (.iconst 1, 1) := by decide +kernel
theorem d_Wo_isCondition_42 : decode b_Wo_isCondition 42 = .ok (.goto 4, 3) := by decide +kernel
theorem d_Wo_isCondition_45 : decode b_Wo_isCondition 45 = .ok (.iconst 0, 1) := by decide +kernel
theorem d_Wo_isCondition_46 : decode b_Wo_isCondition 46 = .ok (.ireturn, 1) := by decide +kernel
set_option maxRecDepth 100000 in
set_option maxHeartbeats 4000000 in
theorem S_Wo_isCondition_0 {G : Gc} {M : Mc} {Q : State → Prop} {K : Option Value → Hp → Prop} (hG : gok G) (hM : mok G M r_Wo_isCondition Q K) (v0 : Nat) (v1 : Int32) (v2 : Int32) (v3 : Int32) (h : Hp) (F : kT h v0 = 2 ∧ sem G r_Wo_isThing [.ref v0, .int v1] h (fun u2 h1 => ∃ x3 : Int32, u2 = some (.int x3) ∧ ((x3 = 0 → K (some (.int 0)) h1) ∧ (¬ x3 = 0 → ((v2 < 0 → K (some (.int 0)) h1) ∧ (¬ v2 < 0 → ((v2 ≤ 3 → ((v2 = 2 → (kT h1 v0 = 2 ∧ sem G r_Wo_isThing [.ref v0, .int v3] h1 (fun u8 h7 => ∃ x9 : Int32, u8 = some (.int x9) ∧ (nb x9 ∧ K (some (.int x9)) h7)))) ∧ (¬ v2 = 2 → (∀ z4 : Int32, z4 = (if v3 < 0 then 0 else (if 4 ≤ v3 then 0 else 1)) → (nb z4 ∧ K (some (.int z4)) h1))))) ∧ (¬ v2 ≤ 3 → K (some (.int 0)) h1)))))))) : X G M Q 0 [(0, .ref v0), (1, .int v1), (2, .int v2), (3, .int v3)] [] h := by
  refine x_aload_n hM d_Wo_isCondition_0 rfl 0 rfl ?_
  refine x_iload_n hM d_Wo_isCondition_1 rfl 1 rfl ?_
  obtain ⟨c15, F⟩ := F
  refine x_callV hG hM (r' := r_Wo_isThing) (ci := 1) [.int v1] rfl rfl (Nat.le_of_ble_eq_true rfl) yk_Wo_isThing ⟨Nat.le_of_ble_eq_true rfl, Nat.le_of_ble_eq_true rfl⟩ w_504 w_505 w_506 rfl rfl (Nat.le_of_ble_eq_true rfl) d_Wo_isCondition_2 c15 (sem_mono F ?_)
  intro u2 h1 F
  obtain ⟨x3, rfl, F⟩ := F
  refine x_if_eq (tgt := 17) hM d_Wo_isCondition_5 (by decide) (fun q14 => ?_) (fun q14 => ?_)
  · replace F := F.1 q14
    refine x_iconst (v := 0) hM d_Wo_isCondition_17 (by decide) ?_
    exact x_zreturn hM d_Wo_isCondition_18 rfl (Or.inl rfl) F
  · replace F := F.2 q14
    refine x_iload_n hM d_Wo_isCondition_8 rfl 2 rfl ?_
    refine x_if_lt (tgt := 17) hM d_Wo_isCondition_9 (by decide) (fun q13 => ?_) (fun q13 => ?_)
    · replace F := F.1 q13
      refine x_iconst (v := 0) hM d_Wo_isCondition_17 (by decide) ?_
      exact x_zreturn hM d_Wo_isCondition_18 rfl (Or.inl rfl) F
    · replace F := F.2 q13
      refine x_iload_n hM d_Wo_isCondition_12 rfl 2 rfl ?_
      refine x_iconst (v := 3) hM d_Wo_isCondition_13 (by decide) ?_
      refine x_icmp_le (tgt := 19) hM d_Wo_isCondition_14 (by decide) (fun q12 => ?_) (fun q12 => ?_)
      · replace F := F.1 q12
        refine x_iload_n hM d_Wo_isCondition_19 rfl 2 rfl ?_
        refine x_iconst (v := 2) hM d_Wo_isCondition_20 (by decide) ?_
        refine x_icmp_ne (tgt := 32) hM d_Wo_isCondition_21 (by decide) (fun q11 => ?_) (fun q11 => ?_)
        · replace F := F.2 q11
          refine x_iload_n hM d_Wo_isCondition_32 rfl 3 rfl ?_
          have JJ : ∀ (z4 : Int32) (ez4 : z4 = (if v3 < 0 then 0 else (if 4 ≤ v3 then 0 else 1))), X G M Q 46 [] [.int z4] h1 := by
            intro z4 ez4
            replace F := F _ ez4
            exact x_zreturn hM d_Wo_isCondition_46 rfl F.1 F.2
          refine x_if_lt (tgt := 45) hM d_Wo_isCondition_33 (by decide) (fun q5 => ?_) (fun q5 => ?_)
          · refine x_iconst (v := 0) hM d_Wo_isCondition_45 (by decide) ?_
            refine x_sub [] rfl ?_
            exact JJ _ (Eq.symm (if_pos q5))
          · refine x_iload_n hM d_Wo_isCondition_36 rfl 3 rfl ?_
            refine x_iconst (v := 4) hM d_Wo_isCondition_37 (by decide) ?_
            refine x_icmp_ge (tgt := 45) hM d_Wo_isCondition_38 (by decide) (fun q6 => ?_) (fun q6 => ?_)
            · refine x_iconst (v := 0) hM d_Wo_isCondition_45 (by decide) ?_
              refine x_sub [] rfl ?_
              exact JJ _ (Eq.symm (Eq.trans (if_neg q5) (if_pos q6)))
            · refine x_iconst (v := 1) hM d_Wo_isCondition_41 (by decide) ?_
              refine x_goto (tgt := 46) hM d_Wo_isCondition_42 (by decide) ?_
              refine x_sub [] rfl ?_
              exact JJ _ (Eq.symm (Eq.trans (if_neg q5) (if_neg q6)))
        · replace F := F.1 q11
          refine x_aload_n hM d_Wo_isCondition_24 rfl 0 rfl ?_
          refine x_iload_n hM d_Wo_isCondition_25 rfl 3 rfl ?_
          obtain ⟨c10, F⟩ := F
          refine x_callV hG hM (r' := r_Wo_isThing) (ci := 1) [.int v3] rfl rfl (Nat.le_of_ble_eq_true rfl) yk_Wo_isThing ⟨Nat.le_of_ble_eq_true rfl, Nat.le_of_ble_eq_true rfl⟩ w_504 w_505 w_506 rfl rfl (Nat.le_of_ble_eq_true rfl) d_Wo_isCondition_26 c10 (sem_mono F ?_)
          intro u8 h7 F
          obtain ⟨x9, rfl, F⟩ := F
          refine x_goto (tgt := 46) hM d_Wo_isCondition_29 (by decide) ?_
          exact x_zreturn hM d_Wo_isCondition_46 rfl F.1 F.2
      · replace F := F.2 q12
        refine x_iconst (v := 0) hM d_Wo_isCondition_17 (by decide) ?_
        exact x_zreturn hM d_Wo_isCondition_18 rfl (Or.inl rfl) F
theorem d_Wo_isThing_0 : decode b_Wo_isThing 0 = .ok (.iload_n 1, 1) := by decide +kernel
theorem d_Wo_isThing_1 : decode b_Wo_isThing 1 = .ok (.ifCond .lt 15, 3) := by decide +kernel
theorem d_Wo_isThing_4 : decode b_Wo_isThing 4 = .ok (.iload_n 1, 1) := by decide +kernel
theorem d_Wo_isThing_5 : decode b_Wo_isThing 5 = .ok (.aload_n 0, 1) := by decide +kernel
theorem d_Wo_isThing_6 : decode b_Wo_isThing 6 = .ok (.getfield 9, 3) := by decide +kernel
theorem d_Wo_isThing_9 : decode b_Wo_isThing 9 = .ok (.if_icmp .ge 7, 3) := by decide +kernel
theorem d_Wo_isThing_12 : decode b_Wo_isThing 12 = .ok (.iconst 1, 1) := by decide +kernel
theorem d_Wo_isThing_13 : decode b_Wo_isThing 13 = .ok (.goto 4, 3) := by decide +kernel
theorem d_Wo_isThing_16 : decode b_Wo_isThing 16 = .ok (.iconst 0, 1) := by decide +kernel
theorem d_Wo_isThing_17 : decode b_Wo_isThing 17 = .ok (.ireturn, 1) := by decide +kernel
set_option maxRecDepth 100000 in
set_option maxHeartbeats 4000000 in
theorem S_Wo_isThing_0 {G : Gc} {M : Mc} {Q : State → Prop} {K : Option Value → Hp → Prop} (hG : gok G) (hM : mok G M r_Wo_isThing Q K) (v0 : Nat) (v1 : Int32) (h : Hp) (F : (¬ v1 < 0 → kT h v0 = 2) ∧ (∀ z1 : Int32, z1 = (if v1 < 0 then 0 else (if (kI h v0 0) ≤ v1 then 0 else 1)) → (nb z1 ∧ K (some (.int z1)) h))) : X G M Q 0 [(0, .ref v0), (1, .int v1)] [] h := by
  refine x_iload_n hM d_Wo_isThing_0 rfl 1 rfl ?_
  obtain ⟨S, F⟩ := F
  have JJ : ∀ (z1 : Int32) (ez1 : z1 = (if v1 < 0 then 0 else (if (kI h v0 0) ≤ v1 then 0 else 1))), X G M Q 17 [] [.int z1] h := by
    intro z1 ez1
    replace F := F _ ez1
    exact x_zreturn hM d_Wo_isThing_17 rfl F.1 F.2
  refine x_if_lt (tgt := 16) hM d_Wo_isThing_1 (by decide) (fun q2 => ?_) (fun q2 => ?_)
  · refine x_iconst (v := 0) hM d_Wo_isThing_16 (by decide) ?_
    refine x_sub [] rfl ?_
    exact JJ _ (Eq.symm (if_pos q2))
  · replace S := S q2
    refine x_iload_n hM d_Wo_isThing_4 rfl 1 rfl ?_
    refine x_aload_n hM d_Wo_isThing_5 rfl 0 rfl ?_
    have c3 := S
    refine x_geti hG hM ck_Wo 0 (Nat.le_of_ble_eq_true rfl) rfl rfl w_123 rfl d_Wo_isThing_6 c3 ?_
    refine x_icmp_ge (tgt := 16) hM d_Wo_isThing_9 (by decide) (fun q4 => ?_) (fun q4 => ?_)
    · refine x_iconst (v := 0) hM d_Wo_isThing_16 (by decide) ?_
      refine x_sub [] rfl ?_
      exact JJ _ (Eq.symm (Eq.trans (if_neg q2) (if_pos q4)))
    · refine x_iconst (v := 1) hM d_Wo_isThing_12 (by decide) ?_
      refine x_goto (tgt := 17) hM d_Wo_isThing_13 (by decide) ?_
      refine x_sub [] rfl ?_
      exact JJ _ (Eq.symm (Eq.trans (if_neg q2) (if_neg q4)))
theorem d_Wo_isOutcome_0 : decode b_Wo_isOutcome 0 = .ok (.aload_n 0, 1) := by decide +kernel
theorem d_Wo_isOutcome_1 : decode b_Wo_isOutcome 1 = .ok (.iload_n 1, 1) := by decide +kernel
theorem d_Wo_isOutcome_2 : decode b_Wo_isOutcome 2 = .ok (.invokevirtual 51, 3) := by decide +kernel
theorem d_Wo_isOutcome_5 : decode b_Wo_isOutcome 5 = .ok (.ifCond .eq 24, 3) := by decide +kernel
theorem d_Wo_isOutcome_8 : decode b_Wo_isOutcome 8 = .ok (.iload_n 2, 1) := by decide +kernel
theorem d_Wo_isOutcome_9 : decode b_Wo_isOutcome 9 = .ok (.ifCond .lt 20, 3) := by decide +kernel
theorem d_Wo_isOutcome_12 : decode b_Wo_isOutcome 12 = .ok (.iload_n 2, 1) := by decide +kernel
theorem d_Wo_isOutcome_13 : decode b_Wo_isOutcome 13 = .ok (.aload_n 0, 1) := by decide +kernel
theorem d_Wo_isOutcome_14 : decode b_Wo_isOutcome 14 = .ok (.getfield 30, 3) := by decide +kernel
theorem d_Wo_isOutcome_17 : decode b_Wo_isOutcome 17 = .ok (.iload_n 1, 1) := by decide +kernel
theorem d_Wo_isOutcome_18 : decode b_Wo_isOutcome 18 = .ok (.aaload, 1) := by decide +kernel
theorem d_Wo_isOutcome_19 : decode b_Wo_isOutcome 19 = .ok (.getfield 55, 3) := by decide +kernel
theorem d_Wo_isOutcome_22 : decode b_Wo_isOutcome 22 = .ok (.if_icmp .ge 7, 3) := by decide +kernel
theorem d_Wo_isOutcome_25 : decode b_Wo_isOutcome 25 = .ok (.iconst 1, 1) := by decide +kernel
theorem d_Wo_isOutcome_26 : decode b_Wo_isOutcome 26 = .ok (.goto 4, 3) := by decide +kernel
theorem d_Wo_isOutcome_29 : decode b_Wo_isOutcome 29 = .ok (.iconst 0, 1) := by decide +kernel
theorem d_Wo_isOutcome_30 : decode b_Wo_isOutcome 30 = .ok (.ireturn, 1) := by decide +kernel
set_option maxRecDepth 100000 in
set_option maxHeartbeats 4000000 in
theorem S_Wo_isOutcome_0 {G : Gc} {M : Mc} {Q : State → Prop} {K : Option Value → Hp → Prop} (hG : gok G) (hM : mok G M r_Wo_isOutcome Q K) (v0 : Nat) (v1 : Int32) (v2 : Int32) (h : Hp) (F : kT h v0 = 2 ∧ sem G r_Wo_isAct [.ref v0, .int v1] h (fun u2 h1 => ∃ x3 : Int32, u2 = some (.int x3) ∧ ((¬ x3 = 0 → (¬ v2 < 0 → (kT h1 v0 = 2 ∧ kR h1 v0 5 = some (rf h1 v0 5) ∧ kT h1 (rf h1 v0 5) = 53 ∧ vp_in v1 (kN h1 (rf h1 v0 5)) ∧ kR h1 (rf h1 v0 5) (Int32.toNatClampNeg v1) = some (rf h1 (rf h1 v0 5) (Int32.toNatClampNeg v1)) ∧ kT h1 (rf h1 (rf h1 v0 5) (Int32.toNatClampNeg v1)) = 3))) ∧ (∀ z4 : Int32, z4 = (if x3 = 0 then 0 else (if v2 < 0 then 0 else (if (kI h1 (rf h1 (rf h1 v0 5) (Int32.toNatClampNeg v1)) 2) ≤ v2 then 0 else 1))) → (nb z4 ∧ K (some (.int z4)) h1))))) : X G M Q 0 [(0, .ref v0), (1, .int v1), (2, .int v2)] [] h := by
  refine x_aload_n hM d_Wo_isOutcome_0 rfl 0 rfl ?_
  refine x_iload_n hM d_Wo_isOutcome_1 rfl 1 rfl ?_
  obtain ⟨c14, F⟩ := F
  refine x_callV hG hM (r' := r_Wo_isAct) (ci := 1) [.int v1] rfl rfl (Nat.le_of_ble_eq_true rfl) yk_Wo_isAct ⟨Nat.le_of_ble_eq_true rfl, Nat.le_of_ble_eq_true rfl⟩ w_520 w_485 w_486 rfl rfl (Nat.le_of_ble_eq_true rfl) d_Wo_isOutcome_2 c14 (sem_mono F ?_)
  intro u2 h1 F
  obtain ⟨x3, rfl, F⟩ := F
  obtain ⟨S, F⟩ := F
  have JJ : ∀ (z4 : Int32) (ez4 : z4 = (if x3 = 0 then 0 else (if v2 < 0 then 0 else (if (kI h1 (rf h1 (rf h1 v0 5) (Int32.toNatClampNeg v1)) 2) ≤ v2 then 0 else 1)))), X G M Q 30 [] [.int z4] h1 := by
    intro z4 ez4
    replace F := F _ ez4
    exact x_zreturn hM d_Wo_isOutcome_30 rfl F.1 F.2
  refine x_if_eq (tgt := 29) hM d_Wo_isOutcome_5 (by decide) (fun q5 => ?_) (fun q5 => ?_)
  · refine x_iconst (v := 0) hM d_Wo_isOutcome_29 (by decide) ?_
    refine x_sub [] rfl ?_
    exact JJ _ (Eq.symm (if_pos q5))
  · replace S := S q5
    refine x_iload_n hM d_Wo_isOutcome_8 rfl 2 rfl ?_
    refine x_if_lt (tgt := 29) hM d_Wo_isOutcome_9 (by decide) (fun q6 => ?_) (fun q6 => ?_)
    · refine x_iconst (v := 0) hM d_Wo_isOutcome_29 (by decide) ?_
      refine x_sub [] rfl ?_
      exact JJ _ (Eq.symm (Eq.trans (if_neg q5) (if_pos q6)))
    · replace S := S q6
      refine x_iload_n hM d_Wo_isOutcome_12 rfl 2 rfl ?_
      refine x_aload_n hM d_Wo_isOutcome_13 rfl 0 rfl ?_
      obtain ⟨c7, S⟩ := S
      obtain ⟨c8, S⟩ := S
      refine x_getr hG hM ck_Wo 5 (Nat.le_of_ble_eq_true rfl) rfl rfl w_143 rfl d_Wo_isOutcome_14 c7 c8 ?_
      refine x_iload_n hM d_Wo_isOutcome_17 rfl 1 rfl ?_
      obtain ⟨c9, S⟩ := S
      obtain ⟨c10, S⟩ := S
      obtain ⟨c11, S⟩ := S
      refine x_aaload hG hM 53 rfl (Nat.le_of_ble_eq_true rfl) d_Wo_isOutcome_18 c9 c10 c11 ?_
      have c12 := S
      refine x_geti hG hM ck_Ac 2 (Nat.le_of_ble_eq_true rfl) rfl rfl w_109 rfl d_Wo_isOutcome_19 c12 ?_
      refine x_icmp_ge (tgt := 29) hM d_Wo_isOutcome_22 (by decide) (fun q13 => ?_) (fun q13 => ?_)
      · refine x_iconst (v := 0) hM d_Wo_isOutcome_29 (by decide) ?_
        refine x_sub [] rfl ?_
        exact JJ _ (Eq.symm (Eq.trans (if_neg q5) (Eq.trans (if_neg q6) (if_pos q13))))
      · refine x_iconst (v := 1) hM d_Wo_isOutcome_25 (by decide) ?_
        refine x_goto (tgt := 30) hM d_Wo_isOutcome_26 (by decide) ?_
        refine x_sub [] rfl ?_
        exact JJ _ (Eq.symm (Eq.trans (if_neg q5) (Eq.trans (if_neg q6) (if_neg q13))))
theorem d_Wo_isEffect_0 : decode b_Wo_isEffect 0 = .ok (.aload_n 0, 1) := by decide +kernel
theorem d_Wo_isEffect_1 : decode b_Wo_isEffect 1 = .ok (.iload_n 1, 1) := by decide +kernel
theorem d_Wo_isEffect_2 : decode b_Wo_isEffect 2 = .ok (.invokevirtual 58, 3) := by decide +kernel
theorem d_Wo_isEffect_5 : decode b_Wo_isEffect 5 = .ok (.ifCond .eq 12, 3) := by decide +kernel
theorem d_Wo_isEffect_8 : decode b_Wo_isEffect 8 = .ok (.iload_n 2, 1) := by decide +kernel
theorem d_Wo_isEffect_9 : decode b_Wo_isEffect 9 = .ok (.ifCond .lt 8, 3) := by decide +kernel
theorem d_Wo_isEffect_12 : decode b_Wo_isEffect 12 = .ok (.iload_n 2, 1) := by decide +kernel
theorem d_Wo_isEffect_13 : decode b_Wo_isEffect 13 = .ok (.iconst 2, 1) := by decide +kernel
theorem d_Wo_isEffect_14 : decode b_Wo_isEffect 14 = .ok (.if_icmp .le 5, 3) := by decide +kernel
theorem d_Wo_isEffect_17 : decode b_Wo_isEffect 17 = .ok (.iconst 0, 1) := by decide +kernel
theorem d_Wo_isEffect_18 : decode b_Wo_isEffect 18 = .ok (.ireturn, 1) := by decide +kernel
theorem d_Wo_isEffect_19 : decode b_Wo_isEffect 19 = .ok (.iload_n 2, 1) := by decide +kernel
theorem d_Wo_isEffect_20 : decode b_Wo_isEffect 20 = .ok (.iconst 1, 1) := by decide +kernel
theorem d_Wo_isEffect_21 : decode b_Wo_isEffect 21 = .ok (.if_icmp .ne 9, 3) := by decide +kernel
theorem d_Wo_isEffect_24 : decode b_Wo_isEffect 24 = .ok (.aload_n 0, 1) := by decide +kernel
theorem d_Wo_isEffect_25 : decode b_Wo_isEffect 25 = .ok (.iload_n 3, 1) := by decide +kernel
theorem d_Wo_isEffect_26 : decode b_Wo_isEffect 26 = .ok (.invokevirtual 58, 3) := by decide +kernel
theorem d_Wo_isEffect_29 : decode b_Wo_isEffect 29 = .ok (.ireturn, 1) := by decide +kernel
theorem d_Wo_isEffect_30 : decode b_Wo_isEffect 30 = .ok (.iload_n 3, 1) := by decide +kernel
theorem d_Wo_isEffect_31 : decode b_Wo_isEffect 31 = .ok (.ifCond .lt 25, 3) := by decide +kernel
theorem d_Wo_isEffect_34 : decode b_Wo_isEffect 34 = .ok (.iload_n 3, 1) := by decide +kernel
theorem d_Wo_isEffect_35 : decode b_Wo_isEffect 35 = .ok (.iload_n 2, 1) := by decide +kernel
theorem d_Wo_isEffect_36 : decode b_Wo_isEffect 36 = .ok (.ifCond .ne 12, 3) := by decide +kernel
theorem d_Wo_isEffect_39 : decode b_Wo_isEffect 39 = .ok (.aload_n 0, 1) := by decide +kernel
theorem d_Wo_isEffect_40 : decode b_Wo_isEffect 40 = .ok (.getfield 21, 3) := by decide +kernel
theorem d_Wo_isEffect_43 : decode b_Wo_isEffect 43 = .ok (.iload_n 1, 1) := by decide +kernel
theorem d_Wo_isEffect_44 : decode b_Wo_isEffect 44 = .ok (.iaload, 1) := by decide +kernel
theorem d_Wo_isEffect_45 : decode b_Wo_isEffect 45 = .ok (.goto 4, 3) := by decide +kernel
theorem d_Wo_isEffect_48 : decode b_Wo_isEffect 48 = .ok (.iconst 4, 1) := by decide +kernel
theorem d_Wo_isEffect_49 : decode b_Wo_isEffect 49 = .ok (.if_icmp .ge 7, 3) := by decide +kernel
theorem d_Wo_isEffect_52 : decode b_Wo_isEffect 52 = .ok (.iconst 1, 1) := by decide +kernel
theorem d_Wo_isEffect_53 : decode b_Wo_isEffect 53 = .ok (.goto 4, 3) := by decide +kernel
theorem d_Wo_isEffect_56 : decode b_Wo_isEffect 56 = .ok (.iconst 0, 1) := by decide +kernel
theorem d_Wo_isEffect_57 : decode b_Wo_isEffect 57 = .ok (.ireturn, 1) := by decide +kernel
set_option maxRecDepth 100000 in
set_option maxHeartbeats 4000000 in
theorem S_Wo_isEffect_0 {G : Gc} {M : Mc} {Q : State → Prop} {K : Option Value → Hp → Prop} (hG : gok G) (hM : mok G M r_Wo_isEffect Q K) (v0 : Nat) (v1 : Int32) (v2 : Int32) (v3 : Int32) (h : Hp) (F : kT h v0 = 2 ∧ sem G r_Wo_isThing [.ref v0, .int v1] h (fun u2 h1 => ∃ x3 : Int32, u2 = some (.int x3) ∧ ((x3 = 0 → K (some (.int 0)) h1) ∧ (¬ x3 = 0 → ((v2 < 0 → K (some (.int 0)) h1) ∧ (¬ v2 < 0 → ((v2 ≤ 2 → ((v2 = 1 → (kT h1 v0 = 2 ∧ sem G r_Wo_isThing [.ref v0, .int v3] h1 (fun u14 h13 => ∃ x15 : Int32, u14 = some (.int x15) ∧ (nb x15 ∧ K (some (.int x15)) h13)))) ∧ (¬ v2 = 1 → ((¬ v3 < 0 → (v2 = 0 → (kT h1 v0 = 2 ∧ kR h1 v0 3 = some (rf h1 v0 3) ∧ kT h1 (rf h1 v0 3) = 50 ∧ vp_in v1 (kN h1 (rf h1 v0 3))))) ∧ (∀ z4 : Int32, z4 = (if v3 < 0 then 0 else (if v2 = 0 then (if (kI h1 (rf h1 v0 3) (Int32.toNatClampNeg v1)) ≤ v3 then 0 else 1) else (if 4 ≤ v3 then 0 else 1))) → (nb z4 ∧ K (some (.int z4)) h1)))))) ∧ (¬ v2 ≤ 2 → K (some (.int 0)) h1)))))))) : X G M Q 0 [(0, .ref v0), (1, .int v1), (2, .int v2), (3, .int v3)] [] h := by
  refine x_aload_n hM d_Wo_isEffect_0 rfl 0 rfl ?_
  refine x_iload_n hM d_Wo_isEffect_1 rfl 1 rfl ?_
  obtain ⟨c21, F⟩ := F
  refine x_callV hG hM (r' := r_Wo_isThing) (ci := 1) [.int v1] rfl rfl (Nat.le_of_ble_eq_true rfl) yk_Wo_isThing ⟨Nat.le_of_ble_eq_true rfl, Nat.le_of_ble_eq_true rfl⟩ w_504 w_505 w_506 rfl rfl (Nat.le_of_ble_eq_true rfl) d_Wo_isEffect_2 c21 (sem_mono F ?_)
  intro u2 h1 F
  obtain ⟨x3, rfl, F⟩ := F
  refine x_if_eq (tgt := 17) hM d_Wo_isEffect_5 (by decide) (fun q20 => ?_) (fun q20 => ?_)
  · replace F := F.1 q20
    refine x_iconst (v := 0) hM d_Wo_isEffect_17 (by decide) ?_
    exact x_zreturn hM d_Wo_isEffect_18 rfl (Or.inl rfl) F
  · replace F := F.2 q20
    refine x_iload_n hM d_Wo_isEffect_8 rfl 2 rfl ?_
    refine x_if_lt (tgt := 17) hM d_Wo_isEffect_9 (by decide) (fun q19 => ?_) (fun q19 => ?_)
    · replace F := F.1 q19
      refine x_iconst (v := 0) hM d_Wo_isEffect_17 (by decide) ?_
      exact x_zreturn hM d_Wo_isEffect_18 rfl (Or.inl rfl) F
    · replace F := F.2 q19
      refine x_iload_n hM d_Wo_isEffect_12 rfl 2 rfl ?_
      refine x_iconst (v := 2) hM d_Wo_isEffect_13 (by decide) ?_
      refine x_icmp_le (tgt := 19) hM d_Wo_isEffect_14 (by decide) (fun q18 => ?_) (fun q18 => ?_)
      · replace F := F.1 q18
        refine x_iload_n hM d_Wo_isEffect_19 rfl 2 rfl ?_
        refine x_iconst (v := 1) hM d_Wo_isEffect_20 (by decide) ?_
        refine x_icmp_ne (tgt := 30) hM d_Wo_isEffect_21 (by decide) (fun q17 => ?_) (fun q17 => ?_)
        · replace F := F.2 q17
          refine x_iload_n hM d_Wo_isEffect_30 rfl 3 rfl ?_
          obtain ⟨S, F⟩ := F
          have JJ : ∀ (z4 : Int32) (ez4 : z4 = (if v3 < 0 then 0 else (if v2 = 0 then (if (kI h1 (rf h1 v0 3) (Int32.toNatClampNeg v1)) ≤ v3 then 0 else 1) else (if 4 ≤ v3 then 0 else 1)))), X G M Q 57 [] [.int z4] h1 := by
            intro z4 ez4
            replace F := F _ ez4
            exact x_zreturn hM d_Wo_isEffect_57 rfl F.1 F.2
          refine x_if_lt (tgt := 56) hM d_Wo_isEffect_31 (by decide) (fun q5 => ?_) (fun q5 => ?_)
          · refine x_iconst (v := 0) hM d_Wo_isEffect_56 (by decide) ?_
            refine x_sub [] rfl ?_
            exact JJ _ (Eq.symm (if_pos q5))
          · replace S := S q5
            refine x_iload_n hM d_Wo_isEffect_34 rfl 3 rfl ?_
            refine x_iload_n hM d_Wo_isEffect_35 rfl 2 rfl ?_
            refine x_if_ne (tgt := 48) hM d_Wo_isEffect_36 (by decide) (fun q6 => ?_) (fun q6 => ?_)
            · refine x_iconst (v := 4) hM d_Wo_isEffect_48 (by decide) ?_
              refine x_icmp_ge (tgt := 56) hM d_Wo_isEffect_49 (by decide) (fun q7 => ?_) (fun q7 => ?_)
              · refine x_iconst (v := 0) hM d_Wo_isEffect_56 (by decide) ?_
                refine x_sub [] rfl ?_
                exact JJ _ (Eq.symm (Eq.trans (if_neg q5) (Eq.trans (if_neg q6) (if_pos q7))))
              · refine x_iconst (v := 1) hM d_Wo_isEffect_52 (by decide) ?_
                refine x_goto (tgt := 57) hM d_Wo_isEffect_53 (by decide) ?_
                refine x_sub [] rfl ?_
                exact JJ _ (Eq.symm (Eq.trans (if_neg q5) (Eq.trans (if_neg q6) (if_neg q7))))
            · replace S := S q6
              refine x_aload_n hM d_Wo_isEffect_39 rfl 0 rfl ?_
              obtain ⟨c8, S⟩ := S
              obtain ⟨c9, S⟩ := S
              refine x_getr hG hM ck_Wo 3 (Nat.le_of_ble_eq_true rfl) rfl rfl w_140 rfl d_Wo_isEffect_40 c8 c9 ?_
              refine x_iload_n hM d_Wo_isEffect_43 rfl 1 rfl ?_
              obtain ⟨c10, S⟩ := S
              have c11 := S
              refine x_iaload hG hM d_Wo_isEffect_44 c10 c11 ?_
              refine x_goto (tgt := 49) hM d_Wo_isEffect_45 (by decide) ?_
              refine x_icmp_ge (tgt := 56) hM d_Wo_isEffect_49 (by decide) (fun q12 => ?_) (fun q12 => ?_)
              · refine x_iconst (v := 0) hM d_Wo_isEffect_56 (by decide) ?_
                refine x_sub [] rfl ?_
                exact JJ _ (Eq.symm (Eq.trans (if_neg q5) (Eq.trans (if_pos q6) (if_pos q12))))
              · refine x_iconst (v := 1) hM d_Wo_isEffect_52 (by decide) ?_
                refine x_goto (tgt := 57) hM d_Wo_isEffect_53 (by decide) ?_
                refine x_sub [] rfl ?_
                exact JJ _ (Eq.symm (Eq.trans (if_neg q5) (Eq.trans (if_pos q6) (if_neg q12))))
        · replace F := F.1 q17
          refine x_aload_n hM d_Wo_isEffect_24 rfl 0 rfl ?_
          refine x_iload_n hM d_Wo_isEffect_25 rfl 3 rfl ?_
          obtain ⟨c16, F⟩ := F
          refine x_callV hG hM (r' := r_Wo_isThing) (ci := 1) [.int v3] rfl rfl (Nat.le_of_ble_eq_true rfl) yk_Wo_isThing ⟨Nat.le_of_ble_eq_true rfl, Nat.le_of_ble_eq_true rfl⟩ w_504 w_505 w_506 rfl rfl (Nat.le_of_ble_eq_true rfl) d_Wo_isEffect_26 c16 (sem_mono F ?_)
          intro u14 h13 F
          obtain ⟨x15, rfl, F⟩ := F
          exact x_zreturn hM d_Wo_isEffect_29 rfl F.1 F.2
      · replace F := F.2 q18
        refine x_iconst (v := 0) hM d_Wo_isEffect_17 (by decide) ?_
        exact x_zreturn hM d_Wo_isEffect_18 rfl (Or.inl rfl) F
theorem d_Wo_dropAct_0 : decode b_Wo_dropAct 0 = .ok (.aload_n 0, 1) := by decide +kernel
theorem d_Wo_dropAct_1 : decode b_Wo_dropAct 1 = .ok (.dup, 1) := by decide +kernel
theorem d_Wo_dropAct_2 : decode b_Wo_dropAct 2 = .ok (.getfield 18, 3) := by decide +kernel
theorem d_Wo_dropAct_5 : decode b_Wo_dropAct 5 = .ok (.iconst 1, 1) := by decide +kernel
theorem d_Wo_dropAct_6 : decode b_Wo_dropAct 6 = .ok (.isub, 1) := by decide +kernel
theorem d_Wo_dropAct_7 : decode b_Wo_dropAct 7 = .ok (.putfield 18, 3) := by decide +kernel
theorem d_Wo_dropAct_10 : decode b_Wo_dropAct 10 = .ok (.aload_n 0, 1) := by decide +kernel
theorem d_Wo_dropAct_11 : decode b_Wo_dropAct 11 = .ok (.iconst 0, 1) := by decide +kernel
theorem d_Wo_dropAct_12 : decode b_Wo_dropAct 12 = .ok (.putfield 44, 3) := by decide +kernel
theorem d_Wo_dropAct_15 : decode b_Wo_dropAct 15 = .ok (.return_, 1) := by decide +kernel
set_option maxRecDepth 100000 in
set_option maxHeartbeats 4000000 in
theorem S_Wo_dropAct_0 {G : Gc} {M : Mc} {Q : State → Prop} {K : Option Value → Hp → Prop} (hG : gok G) (hM : mok G M r_Wo_dropAct Q K) (v0 : Nat) (h : Hp) (F : kT h v0 = 2 ∧ (kT h v0 = 2 ∧ (∀ h1 : Hp, h1 = wI h v0 2 ((kI h v0 2) - 1) → (kT h1 v0 = 2 ∧ (∀ h2 : Hp, h2 = wI h1 v0 9 0 → K none h2))))) : X G M Q 0 [(0, .ref v0)] [] h := by
  refine x_aload_n hM d_Wo_dropAct_0 rfl 0 rfl ?_
  refine x_dup hM d_Wo_dropAct_1 rfl ?_
  obtain ⟨c5, F⟩ := F
  refine x_geti hG hM ck_Wo 2 (Nat.le_of_ble_eq_true rfl) rfl rfl w_133 rfl d_Wo_dropAct_2 c5 ?_
  refine x_iconst (v := 1) hM d_Wo_dropAct_5 (by decide) ?_
  refine x_isub hM d_Wo_dropAct_6 ?_
  obtain ⟨c4, F⟩ := F
  obtain ⟨h1, eh1⟩ : ∃ z : Hp, z = wI h v0 2 ((kI h v0 2) - 1) := ⟨_, rfl⟩
  replace F := F h1 eh1
  refine x_puti hG hM ck_Wo 2 (Nat.le_of_ble_eq_true rfl) rfl rfl w_133 rfl d_Wo_dropAct_7 (Or.inl rfl) c4 ?_
  rw [← eh1]
  clear eh1
  refine x_aload_n hM d_Wo_dropAct_10 rfl 0 rfl ?_
  refine x_iconst (v := 0) hM d_Wo_dropAct_11 (by decide) ?_
  obtain ⟨c3, F⟩ := F
  obtain ⟨h2, eh2⟩ : ∃ z : Hp, z = wI h1 v0 9 0 := ⟨_, rfl⟩
  replace F := F h2 eh2
  refine x_putz hG hM ck_Wo 9 (Nat.le_of_ble_eq_true rfl) rfl rfl w_160 rfl d_Wo_dropAct_12 (Or.inl rfl) c3 (Or.inl rfl) ?_
  rw [← eh2]
  clear eh2
  exact x_return hM d_Wo_dropAct_15 rfl F
