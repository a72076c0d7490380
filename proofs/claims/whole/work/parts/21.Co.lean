theorem d_Co_init_0 : decode b_Co_init 0 = .ok (.aload_n 0, 1) := by decide +kernel
theorem d_Co_init_1 : decode b_Co_init 1 = .ok (.invokespecial 3, 3) := by decide +kernel
theorem d_Co_init_4 : decode b_Co_init 4 = .ok (.aload_n 0, 1) := by decide +kernel
theorem d_Co_init_5 : decode b_Co_init 5 = .ok (.iconst 0, 1) := by decide +kernel
theorem d_Co_init_6 : decode b_Co_init 6 = .ok (.putfield 9, 3) := by decide +kernel
theorem d_Co_init_9 : decode b_Co_init 9 = .ok (.aload_n 0, 1) := by decide +kernel
theorem d_Co_init_10 : decode b_Co_init 10 = .ok (.bipush 6, 2) := by decide +kernel
theorem d_Co_init_12 : decode b_Co_init 12 = .ok (.anewarray 15, 3) := by decide +kernel
theorem d_Co_init_15 : decode b_Co_init 15 = .ok (.putfield 17, 3) := by decide +kernel
theorem d_Co_init_18 : decode b_Co_init 18 = .ok (.aload_n 0, 1) := by decide +kernel
theorem d_Co_init_19 : decode b_Co_init 19 = .ok (.iconst 0, 1) := by decide +kernel
theorem d_Co_init_20 : decode b_Co_init 20 = .ok (.putfield 21, 3) := by decide +kernel
theorem d_Co_init_23 : decode b_Co_init 23 = .ok (.aload_n 0, 1) := by decide +kernel
theorem d_Co_init_24 : decode b_Co_init 24 = .ok (.iconst (-1), 1) := by decide +kernel
theorem d_Co_init_25 : decode b_Co_init 25 = .ok (.putfield 24, 3) := by decide +kernel
theorem d_Co_init_28 : decode b_Co_init 28 = .ok (.aload_n 0, 1) := by decide +kernel
theorem d_Co_init_29 : decode b_Co_init 29 = .ok (.iconst (-1), 1) := by decide +kernel
theorem d_Co_init_30 : decode b_Co_init 30 = .ok (.putfield 27, 3) := by decide +kernel
theorem d_Co_init_33 : decode b_Co_init 33 = .ok (.aload_n 0, 1) := by decide +kernel
theorem d_Co_init_34 : decode b_Co_init 34 = .ok (.iconst (-1), 1) := by decide +kernel
theorem d_Co_init_35 : decode b_Co_init 35 = .ok (.putfield 30, 3) := by decide +kernel
theorem d_Co_init_38 : decode b_Co_init 38 = .ok (.aload_n 0, 1) := by decide +kernel
theorem d_Co_init_39 : decode b_Co_init 39 = .ok (.lconst 0, 1) := by decide +kernel
theorem d_Co_init_40 : decode b_Co_init 40 = .ok (.putfield 33, 3) := by decide +kernel
theorem d_Co_init_43 : decode b_Co_init 43 = .ok (.aload_n 0, 1) := by decide +kernel
theorem d_Co_init_44 : decode b_Co_init 44 = .ok (.iconst 0, 1) := by decide +kernel
theorem d_Co_init_45 : decode b_Co_init 45 = .ok (.newarray .boolean, 2) := by decide +kernel
theorem d_Co_init_47 : decode b_Co_init 47 = .ok (.putfield 37, 3) := by decide +kernel
theorem d_Co_init_50 : decode b_Co_init 50 = .ok (.iconst 0, 1) := by decide +kernel
theorem d_Co_init_51 : decode b_Co_init 51 = .ok (.istore_n 1, 1) := by decide +kernel
theorem d_Co_init_52 : decode b_Co_init 52 = .ok (.iload_n 1, 1) := by decide +kernel
theorem d_Co_init_53 : decode b_Co_init 53 = .ok (.bipush 6, 2) := by decide +kernel
theorem d_Co_init_55 : decode b_Co_init 55 = .ok (.if_icmp .ge 22, 3) := by decide +kernel
theorem d_Co_init_58 : decode b_Co_init 58 = .ok (.aload_n 0, 1) := by decide +kernel
theorem d_Co_init_59 : decode b_Co_init 59 = .ok (.getfield 17, 3) := by decide +kernel
theorem d_Co_init_62 : decode b_Co_init 62 = .ok (.iload_n 1, 1) := by decide +kernel
theorem d_Co_init_63 : decode b_Co_init 63 = .ok (.new 15, 3) := by decide +kernel
theorem d_Co_init_66 : decode b_Co_init 66 = .ok (.dup, 1) := by decide +kernel
theorem d_Co_init_67 : decode b_Co_init 67 = .ok (.invokespecial 41, 3) := by decide +kernel
theorem d_Co_init_70 : decode b_Co_init 70 = .ok (.aastore, 1) := by decide +kernel
theorem d_Co_init_71 : decode b_Co_init 71 = .ok (.iinc 1 1, 3) := by decide +kernel
theorem d_Co_init_74 : decode b_Co_init 74 = .ok (.goto (-22), 3) := by decide +kernel
theorem d_Co_init_77 : decode b_Co_init 77 = .ok (.return_, 1) := by decide +kernel
set_option maxRecDepth 100000 in
set_option maxHeartbeats 4000000 in
theorem S_Co_init_0 {G : Gc} {M : Mc} {Q : State → Prop} {K : Option Value → Hp → Prop} (hG : gok G) (hM : mok G M r_Co_init Q K) (v0 : Nat) (h : Hp) (F : kT h v0 = 6 ∧ (∀ h1 : Hp, h1 = wI h v0 0 0 → (kX h1 + 1 ≤ gB G + capC ∧ kS h1 + 6 ≤ capS ∧ (∀ h2 : Hp, h2 = wA h1 55 6 6 → (kT h2 v0 = 6 ∧ (∀ h3 : Hp, h3 = wR h2 v0 1 (some (kX h1)) → (kT h3 v0 = 6 ∧ (∀ h4 : Hp, h4 = wI h3 v0 2 0 → (kT h4 v0 = 6 ∧ (∀ h5 : Hp, h5 = wI h4 v0 3 (-1) → (kT h5 v0 = 6 ∧ (∀ h6 : Hp, h6 = wI h5 v0 4 (-1) → (kT h6 v0 = 6 ∧ (∀ h7 : Hp, h7 = wI h6 v0 5 (-1) → (kT h7 v0 = 6 ∧ (∀ h8 : Hp, h8 = wL h7 v0 6 0 → (kX h8 + 1 ≤ gB G + capC ∧ kS h8 + 0 ≤ capS ∧ (∀ h9 : Hp, h9 = wA h8 51 0 0 → (kT h9 v0 = 6 ∧ (∀ h10 : Hp, h10 = wR h9 v0 7 (some (kX h8)) → X G M Q 52 [(0, .ref v0), (1, .int 0)] [] h10)))))))))))))))))))) : X G M Q 0 [(0, .ref v0)] [] h := by
  refine x_aload_n hM d_Co_init_0 rfl 0 rfl ?_
  refine x_objInit hG hM rfl w_190 w_22 w_objcode d_Co_init_1 (Nat.le_of_ble_eq_true rfl) (Nat.le_of_ble_eq_true rfl) (Nat.le_of_ble_eq_true rfl) ?_
  refine x_aload_n hM d_Co_init_4 rfl 0 rfl ?_
  refine x_iconst (v := 0) hM d_Co_init_5 (by decide) ?_
  obtain ⟨c22, F⟩ := F
  obtain ⟨h1, eh1⟩ : ∃ z : Hp, z = wI h v0 0 0 := ⟨_, rfl⟩
  replace F := F h1 eh1
  refine x_puti hG hM ck_Co 0 (Nat.le_of_ble_eq_true rfl) rfl rfl w_194 rfl d_Co_init_6 (Or.inl rfl) c22 ?_
  rw [← eh1]
  clear eh1
  refine x_aload_n hM d_Co_init_9 rfl 0 rfl ?_
  refine x_bipush (v := 6) hM d_Co_init_10 (by decide) ?_
  obtain ⟨c20, F⟩ := F
  obtain ⟨c21, F⟩ := F
  obtain ⟨h2, eh2⟩ : ∃ z : Hp, z = wA h1 55 6 6 := ⟨_, rfl⟩
  replace F := F h2 eh2
  refine x_anew hG hM 55 (N := 6) rfl w_191 w_192 rfl (Nat.le_of_ble_eq_true rfl) d_Co_init_12 (by decide) rfl c20 c21 ?_
  rw [← eh2]
  clear eh2
  obtain ⟨c19, F⟩ := F
  obtain ⟨h3, eh3⟩ : ∃ z : Hp, z = wR h2 v0 1 (some (kX h1)) := ⟨_, rfl⟩
  replace F := F h3 eh3
  refine x_putr hG hM ck_Co 1 (Nat.le_of_ble_eq_true rfl) (Or.inr ⟨_, rfl⟩) rfl w_196 rfl d_Co_init_15 (Or.inr ⟨rfl, rfl, rfl⟩) c19 ?_
  rw [← eh3]
  clear eh3
  refine x_aload_n hM d_Co_init_18 rfl 0 rfl ?_
  refine x_iconst (v := 0) hM d_Co_init_19 (by decide) ?_
  obtain ⟨c18, F⟩ := F
  obtain ⟨h4, eh4⟩ : ∃ z : Hp, z = wI h3 v0 2 0 := ⟨_, rfl⟩
  replace F := F h4 eh4
  refine x_puti hG hM ck_Co 2 (Nat.le_of_ble_eq_true rfl) rfl rfl w_198 rfl d_Co_init_20 (Or.inl rfl) c18 ?_
  rw [← eh4]
  clear eh4
  refine x_aload_n hM d_Co_init_23 rfl 0 rfl ?_
  refine x_iconst (v := (-1)) hM d_Co_init_24 (by decide) ?_
  obtain ⟨c17, F⟩ := F
  obtain ⟨h5, eh5⟩ : ∃ z : Hp, z = wI h4 v0 3 (-1) := ⟨_, rfl⟩
  replace F := F h5 eh5
  refine x_puti hG hM ck_Co 3 (Nat.le_of_ble_eq_true rfl) rfl rfl w_200 rfl d_Co_init_25 (Or.inl rfl) c17 ?_
  rw [← eh5]
  clear eh5
  refine x_aload_n hM d_Co_init_28 rfl 0 rfl ?_
  refine x_iconst (v := (-1)) hM d_Co_init_29 (by decide) ?_
  obtain ⟨c16, F⟩ := F
  obtain ⟨h6, eh6⟩ : ∃ z : Hp, z = wI h5 v0 4 (-1) := ⟨_, rfl⟩
  replace F := F h6 eh6
  refine x_puti hG hM ck_Co 4 (Nat.le_of_ble_eq_true rfl) rfl rfl w_202 rfl d_Co_init_30 (Or.inl rfl) c16 ?_
  rw [← eh6]
  clear eh6
  refine x_aload_n hM d_Co_init_33 rfl 0 rfl ?_
  refine x_iconst (v := (-1)) hM d_Co_init_34 (by decide) ?_
  obtain ⟨c15, F⟩ := F
  obtain ⟨h7, eh7⟩ : ∃ z : Hp, z = wI h6 v0 5 (-1) := ⟨_, rfl⟩
  replace F := F h7 eh7
  refine x_puti hG hM ck_Co 5 (Nat.le_of_ble_eq_true rfl) rfl rfl w_204 rfl d_Co_init_35 (Or.inl rfl) c15 ?_
  rw [← eh7]
  clear eh7
  refine x_aload_n hM d_Co_init_38 rfl 0 rfl ?_
  refine x_lconst (v := 0) hM d_Co_init_39 (by decide) ?_
  obtain ⟨c14, F⟩ := F
  obtain ⟨h8, eh8⟩ : ∃ z : Hp, z = wL h7 v0 6 0 := ⟨_, rfl⟩
  replace F := F h8 eh8
  refine x_putl hG hM ck_Co 6 (Nat.le_of_ble_eq_true rfl) rfl rfl w_206 rfl d_Co_init_40 (Or.inl rfl) c14 ?_
  rw [← eh8]
  clear eh8
  refine x_aload_n hM d_Co_init_43 rfl 0 rfl ?_
  refine x_iconst (v := 0) hM d_Co_init_44 (by decide) ?_
  obtain ⟨c12, F⟩ := F
  obtain ⟨c13, F⟩ := F
  obtain ⟨h9, eh9⟩ : ∃ z : Hp, z = wA h8 51 0 0 := ⟨_, rfl⟩
  replace F := F h9 eh9
  refine x_newZ hG hM (N := 0) w_226 d_Co_init_45 (by decide) rfl c12 c13 ?_
  rw [← eh9]
  clear eh9
  obtain ⟨c11, F⟩ := F
  obtain ⟨h10, eh10⟩ : ∃ z : Hp, z = wR h9 v0 7 (some (kX h8)) := ⟨_, rfl⟩
  replace F := F h10 eh10
  refine x_putr hG hM ck_Co 7 (Nat.le_of_ble_eq_true rfl) (Or.inr ⟨_, rfl⟩) rfl w_208 rfl d_Co_init_47 (Or.inl rfl) c11 ?_
  rw [← eh10]
  clear eh10
  refine x_iconst (v := 0) hM d_Co_init_50 (by decide) ?_
  refine x_istore_n (lv2 := [(1, .int 0), (0, .ref v0)]) hM d_Co_init_51 rfl (Nat.le_of_ble_eq_true rfl) rfl ?_
  refine x_sub [1, 0] rfl ?_
  exact F
set_option maxRecDepth 100000 in
set_option maxHeartbeats 4000000 in
theorem S_Co_init_52 {G : Gc} {M : Mc} {Q : State → Prop} {K : Option Value → Hp → Prop} (hG : gok G) (hM : mok G M r_Co_init Q K) (v0 : Nat) (v1 : Int32) (h : Hp) (F : (6 ≤ v1 → K none h) ∧ (¬ 6 ≤ v1 → (kT h v0 = 6 ∧ kR h v0 1 = some (rf h v0 1) ∧ (kX h + 1 ≤ gB G + capC ∧ kS h + 4 ≤ capS ∧ (∀ h1 : Hp, h1 = wA h 5 0 4 → (sem G r_Cl_init [.ref (kX h)] h1 (fun u3 h2 => u3 = none ∧ (kT h2 (rf h v0 1) = 55 ∧ kT h2 (kX h) = 5 ∧ vp_in v1 (kN h2 (rf h v0 1)) ∧ (∀ h4 : Hp, h4 = wR h2 (rf h v0 1) (Int32.toNatClampNeg v1) (some (kX h)) → X G M Q 52 [(0, .ref v0), (1, .int (v1 + 1))] [] h4))))))))) : X G M Q 52 [(0, .ref v0), (1, .int v1)] [] h := by
  refine x_iload_n hM d_Co_init_52 rfl 1 rfl ?_
  refine x_bipush (v := 6) hM d_Co_init_53 (by decide) ?_
  refine x_icmp_ge (tgt := 77) hM d_Co_init_55 (by decide) (fun q12 => ?_) (fun q12 => ?_)
  · replace F := F.1 q12
    exact x_return hM d_Co_init_77 rfl F
  · replace F := F.2 q12
    refine x_aload_n hM d_Co_init_58 rfl 0 rfl ?_
    obtain ⟨c10, F⟩ := F
    obtain ⟨c11, F⟩ := F
    refine x_getr hG hM ck_Co 1 (Nat.le_of_ble_eq_true rfl) rfl rfl w_196 rfl d_Co_init_59 c10 c11 ?_
    refine x_iload_n hM d_Co_init_62 rfl 1 rfl ?_
    obtain ⟨c8, F⟩ := F
    obtain ⟨c9, F⟩ := F
    obtain ⟨h1, eh1⟩ : ∃ z : Hp, z = wA h 5 0 4 := ⟨_, rfl⟩
    replace F := F h1 eh1
    refine x_new hG hM ck_Cl rfl w_191 w_38 w_4 dv_Cl d_Co_init_63 c8 c9 ?_
    rw [← eh1]
    clear eh1
    refine x_dup hM d_Co_init_66 rfl ?_
    refine x_callIN hG hM (r' := r_Cl_init) [] rfl yk_Cl_init rfl rfl ⟨Nat.le_of_ble_eq_true rfl, Nat.le_of_ble_eq_true rfl⟩ w_193 w_40 rfl rfl (Nat.le_of_ble_eq_true rfl) d_Co_init_67 (sem_mono F ?_)
    intro u3 h2 F
    obtain ⟨rfl, F⟩ := F
    obtain ⟨c5, F⟩ := F
    obtain ⟨c6, F⟩ := F
    obtain ⟨c7, F⟩ := F
    obtain ⟨h4, eh4⟩ : ∃ z : Hp, z = wR h2 (rf h v0 1) (Int32.toNatClampNeg v1) (some (kX h)) := ⟨_, rfl⟩
    replace F := F h4 eh4
    refine x_aastore hG hM 55 4 rfl (Nat.le_of_ble_eq_true rfl) rfl (Nat.le_of_ble_eq_true rfl) d_Co_init_70 c5 c6 c7 ?_
    rw [← eh4]
    clear eh4
    refine x_iinc (v := (v1 + 1)) (lv2 := [(1, .int (v1 + 1)), (0, .ref v0)]) hM d_Co_init_71 (j := 1) rfl rfl (Nat.le_of_ble_eq_true rfl) rfl ?_
    refine x_goto (tgt := 52) hM d_Co_init_74 (by decide) ?_
    refine x_sub [1, 0] rfl ?_
    exact F
theorem d_Co_addPart_0 : decode b_Co_addPart 0 = .ok (.aload_n 0, 1) := by decide +kernel
theorem d_Co_addPart_1 : decode b_Co_addPart 1 = .ok (.getfield 9, 3) := by decide +kernel
theorem d_Co_addPart_4 : decode b_Co_addPart 4 = .ok (.bipush 6, 2) := by decide +kernel
theorem d_Co_addPart_6 : decode b_Co_addPart 6 = .ok (.if_icmp .lt 6, 3) := by decide +kernel
theorem d_Co_addPart_9 : decode b_Co_addPart 9 = .ok (.bipush (-3), 2) := by decide +kernel
theorem d_Co_addPart_11 : decode b_Co_addPart 11 = .ok (.ireturn, 1) := by decide +kernel
theorem d_Co_addPart_12 : decode b_Co_addPart 12 = .ok (.aload_n 0, 1) := by decide +kernel
theorem d_Co_addPart_13 : decode b_Co_addPart 13 = .ok (.getfield 17, 3) := by decide +kernel
theorem d_Co_addPart_16 : decode b_Co_addPart 16 = .ok (.aload_n 0, 1) := by decide +kernel
theorem d_Co_addPart_17 : decode b_Co_addPart 17 = .ok (.getfield 9, 3) := by decide +kernel
theorem d_Co_addPart_20 : decode b_Co_addPart 20 = .ok (.aaload, 1) := by decide +kernel
theorem d_Co_addPart_21 : decode b_Co_addPart 21 = .ok (.iconst 0, 1) := by decide +kernel
theorem d_Co_addPart_22 : decode b_Co_addPart 22 = .ok (.putfield 42, 3) := by decide +kernel
theorem d_Co_addPart_25 : decode b_Co_addPart 25 = .ok (.aload_n 0, 1) := by decide +kernel
theorem d_Co_addPart_26 : decode b_Co_addPart 26 = .ok (.dup, 1) := by decide +kernel
theorem d_Co_addPart_27 : decode b_Co_addPart 27 = .ok (.getfield 9, 3) := by decide +kernel
theorem d_Co_addPart_30 : decode b_Co_addPart 30 = .ok (.iconst 1, 1) := by decide +kernel
theorem d_Co_addPart_31 : decode b_Co_addPart 31 = .ok (.iadd, 1) := by decide +kernel
theorem d_Co_addPart_32 : decode b_Co_addPart 32 = .ok (.putfield 9, 3) := by decide +kernel
theorem d_Co_addPart_35 : decode b_Co_addPart 35 = .ok (.aload_n 0, 1) := by decide +kernel
theorem d_Co_addPart_36 : decode b_Co_addPart 36 = .ok (.getfield 9, 3) := by decide +kernel
theorem d_Co_addPart_39 : decode b_Co_addPart 39 = .ok (.iconst 1, 1) := by decide +kernel
theorem d_Co_addPart_40 : decode b_Co_addPart 40 = .ok (.isub, 1) := by decide +kernel
theorem d_Co_addPart_41 : decode b_Co_addPart 41 = .ok (.ireturn, 1) := by decide +kernel
set_option maxRecDepth 100000 in
set_option maxHeartbeats 4000000 in
theorem S_Co_addPart_0 {G : Gc} {M : Mc} {Q : State → Prop} {K : Option Value → Hp → Prop} (hG : gok G) (hM : mok G M r_Co_addPart Q K) (v0 : Nat) (h : Hp) (F : kT h v0 = 6 ∧ (((kI h v0 0) < 6 → (kT h v0 = 6 ∧ kR h v0 1 = some (rf h v0 1) ∧ (kT h v0 = 6 ∧ (kT h (rf h v0 1) = 55 ∧ vp_in (kI h v0 0) (kN h (rf h v0 1)) ∧ kR h (rf h v0 1) (Int32.toNatClampNeg (kI h v0 0)) = some (rf h (rf h v0 1) (Int32.toNatClampNeg (kI h v0 0))) ∧ (kT h (rf h (rf h v0 1) (Int32.toNatClampNeg (kI h v0 0))) = 5 ∧ (∀ h1 : Hp, h1 = wI h (rf h (rf h v0 1) (Int32.toNatClampNeg (kI h v0 0))) 0 0 → (kT h1 v0 = 6 ∧ (kT h1 v0 = 6 ∧ (∀ h2 : Hp, h2 = wI h1 v0 0 ((kI h1 v0 0) + 1) → (kT h2 v0 = 6 ∧ K (some (.int ((kI h2 v0 0) - 1))) h2)))))))))) ∧ (¬ (kI h v0 0) < 6 → K (some (.int (-3))) h))) : X G M Q 0 [(0, .ref v0)] [] h := by
  refine x_aload_n hM d_Co_addPart_0 rfl 0 rfl ?_
  obtain ⟨c14, F⟩ := F
  refine x_geti hG hM ck_Co 0 (Nat.le_of_ble_eq_true rfl) rfl rfl w_194 rfl d_Co_addPart_1 c14 ?_
  refine x_bipush (v := 6) hM d_Co_addPart_4 (by decide) ?_
  refine x_icmp_lt (tgt := 12) hM d_Co_addPart_6 (by decide) (fun q13 => ?_) (fun q13 => ?_)
  · replace F := F.1 q13
    refine x_aload_n hM d_Co_addPart_12 rfl 0 rfl ?_
    obtain ⟨c11, F⟩ := F
    obtain ⟨c12, F⟩ := F
    refine x_getr hG hM ck_Co 1 (Nat.le_of_ble_eq_true rfl) rfl rfl w_196 rfl d_Co_addPart_13 c11 c12 ?_
    refine x_aload_n hM d_Co_addPart_16 rfl 0 rfl ?_
    obtain ⟨c10, F⟩ := F
    refine x_geti hG hM ck_Co 0 (Nat.le_of_ble_eq_true rfl) rfl rfl w_194 rfl d_Co_addPart_17 c10 ?_
    obtain ⟨c7, F⟩ := F
    obtain ⟨c8, F⟩ := F
    obtain ⟨c9, F⟩ := F
    refine x_aaload hG hM 55 rfl (Nat.le_of_ble_eq_true rfl) d_Co_addPart_20 c7 c8 c9 ?_
    refine x_iconst (v := 0) hM d_Co_addPart_21 (by decide) ?_
    obtain ⟨c6, F⟩ := F
    obtain ⟨h1, eh1⟩ : ∃ z : Hp, z = wI h (rf h (rf h v0 1) (Int32.toNatClampNeg (kI h v0 0))) 0 0 := ⟨_, rfl⟩
    replace F := F h1 eh1
    refine x_puti hG hM ck_Cl 0 (Nat.le_of_ble_eq_true rfl) rfl rfl w_46 rfl d_Co_addPart_22 (Or.inl rfl) c6 ?_
    rw [← eh1]
    clear eh1
    refine x_aload_n hM d_Co_addPart_25 rfl 0 rfl ?_
    refine x_dup hM d_Co_addPart_26 rfl ?_
    obtain ⟨c5, F⟩ := F
    refine x_geti hG hM ck_Co 0 (Nat.le_of_ble_eq_true rfl) rfl rfl w_194 rfl d_Co_addPart_27 c5 ?_
    refine x_iconst (v := 1) hM d_Co_addPart_30 (by decide) ?_
    refine x_iadd hM d_Co_addPart_31 ?_
    obtain ⟨c4, F⟩ := F
    obtain ⟨h2, eh2⟩ : ∃ z : Hp, z = wI h1 v0 0 ((kI h1 v0 0) + 1) := ⟨_, rfl⟩
    replace F := F h2 eh2
    refine x_puti hG hM ck_Co 0 (Nat.le_of_ble_eq_true rfl) rfl rfl w_194 rfl d_Co_addPart_32 (Or.inl rfl) c4 ?_
    rw [← eh2]
    clear eh2
    refine x_aload_n hM d_Co_addPart_35 rfl 0 rfl ?_
    obtain ⟨c3, F⟩ := F
    refine x_geti hG hM ck_Co 0 (Nat.le_of_ble_eq_true rfl) rfl rfl w_194 rfl d_Co_addPart_36 c3 ?_
    refine x_iconst (v := 1) hM d_Co_addPart_39 (by decide) ?_
    refine x_isub hM d_Co_addPart_40 ?_
    exact x_ireturn hM d_Co_addPart_41 rfl F
  · replace F := F.2 q13
    refine x_bipush (v := (-3)) hM d_Co_addPart_9 (by decide) ?_
    exact x_ireturn hM d_Co_addPart_11 rfl F
theorem d_Co_judge_0 : decode b_Co_judge 0 = .ok (.aload_n 0, 1) := by decide +kernel
theorem d_Co_judge_1 : decode b_Co_judge 1 = .ok (.aload_n 1, 1) := by decide +kernel
theorem d_Co_judge_2 : decode b_Co_judge 2 = .ok (.invokevirtual 43, 3) := by decide +kernel
theorem d_Co_judge_5 : decode b_Co_judge 5 = .ok (.aload_n 0, 1) := by decide +kernel
theorem d_Co_judge_6 : decode b_Co_judge 6 = .ok (.iconst 0, 1) := by decide +kernel
theorem d_Co_judge_7 : decode b_Co_judge 7 = .ok (.iconst (-1), 1) := by decide +kernel
theorem d_Co_judge_8 : decode b_Co_judge 8 = .ok (.iconst (-1), 1) := by decide +kernel
theorem d_Co_judge_9 : decode b_Co_judge 9 = .ok (.invokevirtual 47, 3) := by decide +kernel
theorem d_Co_judge_12 : decode b_Co_judge 12 = .ok (.aload_n 0, 1) := by decide +kernel
theorem d_Co_judge_13 : decode b_Co_judge 13 = .ok (.iconst (-1), 1) := by decide +kernel
theorem d_Co_judge_14 : decode b_Co_judge 14 = .ok (.putfield 30, 3) := by decide +kernel
theorem d_Co_judge_17 : decode b_Co_judge 17 = .ok (.aload_n 0, 1) := by decide +kernel
theorem d_Co_judge_18 : decode b_Co_judge 18 = .ok (.getfield 37, 3) := by decide +kernel
theorem d_Co_judge_21 : decode b_Co_judge 21 = .ok (.iload_n 3, 1) := by decide +kernel
theorem d_Co_judge_22 : decode b_Co_judge 22 = .ok (.baload, 1) := by decide +kernel
theorem d_Co_judge_23 : decode b_Co_judge 23 = .ok (.ifCond .ne 11, 3) := by decide +kernel
theorem d_Co_judge_26 : decode b_Co_judge 26 = .ok (.aload_n 0, 1) := by decide +kernel
theorem d_Co_judge_27 : decode b_Co_judge 27 = .ok (.iconst 1, 1) := by decide +kernel
theorem d_Co_judge_28 : decode b_Co_judge 28 = .ok (.iconst (-1), 1) := by decide +kernel
theorem d_Co_judge_29 : decode b_Co_judge 29 = .ok (.iconst (-1), 1) := by decide +kernel
theorem d_Co_judge_30 : decode b_Co_judge 30 = .ok (.invokevirtual 47, 3) := by decide +kernel
theorem d_Co_judge_33 : decode b_Co_judge 33 = .ok (.return_, 1) := by decide +kernel
theorem d_Co_judge_34 : decode b_Co_judge 34 = .ok (.iconst 0, 1) := by decide +kernel
theorem d_Co_judge_35 : decode b_Co_judge 35 = .ok (.istore 4, 2) := by decide +kernel
theorem d_Co_judge_37 : decode b_Co_judge 37 = .ok (.iload 4, 2) := by decide +kernel
theorem d_Co_judge_39 : decode b_Co_judge 39 = .ok (.aload_n 1, 1) := by decide +kernel
theorem d_Co_judge_40 : decode b_Co_judge 40 = .ok (.getfield 51, 3) := by decide +kernel
theorem d_Co_judge_43 : decode b_Co_judge 43 = .ok (.if_icmp .ge 30, 3) := by decide +kernel
theorem d_Co_judge_46 : decode b_Co_judge 46 = .ok (.aload_n 0, 1) := by decide +kernel
theorem d_Co_judge_47 : decode b_Co_judge 47 = .ok (.getfield 37, 3) := by decide +kernel
theorem d_Co_judge_50 : decode b_Co_judge 50 = .ok (.iload 4, 2) := by decide +kernel
theorem d_Co_judge_52 : decode b_Co_judge 52 = .ok (.baload, 1) := by decide +kernel
theorem d_Co_judge_53 : decode b_Co_judge 53 = .ok (.ifCond .eq 14, 3) := by decide +kernel
theorem d_Co_judge_56 : decode b_Co_judge 56 = .ok (.aload_n 0, 1) := by decide +kernel
theorem d_Co_judge_57 : decode b_Co_judge 57 = .ok (.aload_n 1, 1) := by decide +kernel
theorem d_Co_judge_58 : decode b_Co_judge 58 = .ok (.iload 4, 2) := by decide +kernel
theorem d_Co_judge_60 : decode b_Co_judge 60 = .ok (.invokevirtual 56, 3) := by decide +kernel
theorem d_Co_judge_63 : decode b_Co_judge 63 = .ok (.ifCond .eq 4, 3) := by decide +kernel
theorem d_Co_judge_66 : decode b_Co_judge 66 = .ok (.return_, 1) := by decide +kernel
theorem d_Co_judge_67 : decode b_Co_judge 67 = .ok (.iinc 4 1, 3) := by decide +kernel
theorem d_Co_judge_70 : decode b_Co_judge 70 = .ok (.goto (-33), 3) := by decide +kernel
theorem d_Co_judge_73 : decode b_Co_judge 73 = .ok (.iconst 0, 1) := by decide +kernel
theorem d_Co_judge_74 : decode b_Co_judge 74 = .ok (.istore 4, 2) := by decide +kernel
theorem d_Co_judge_76 : decode b_Co_judge 76 = .ok (.iload 4, 2) := by decide +kernel
theorem d_Co_judge_78 : decode b_Co_judge 78 = .ok (.aload_n 1, 1) := by decide +kernel
theorem d_Co_judge_79 : decode b_Co_judge 79 = .ok (.getfield 51, 3) := by decide +kernel
theorem d_Co_judge_82 : decode b_Co_judge 82 = .ok (.if_icmp .ge 35, 3) := by decide +kernel
theorem d_Co_judge_85 : decode b_Co_judge 85 = .ok (.aload_n 0, 1) := by decide +kernel
theorem d_Co_judge_86 : decode b_Co_judge 86 = .ok (.getfield 37, 3) := by decide +kernel
theorem d_Co_judge_89 : decode b_Co_judge 89 = .ok (.iload 4, 2) := by decide +kernel
theorem d_Co_judge_91 : decode b_Co_judge 91 = .ok (.baload, 1) := by decide +kernel
theorem d_Co_judge_92 : decode b_Co_judge 92 = .ok (.ifCond .eq 19, 3) := by decide +kernel
theorem d_Co_judge_95 : decode b_Co_judge 95 = .ok (.aload_n 2, 1) := by decide +kernel
theorem d_Co_judge_96 : decode b_Co_judge 96 = .ok (.iload 4, 2) := by decide +kernel
theorem d_Co_judge_98 : decode b_Co_judge 98 = .ok (.baload, 1) := by decide +kernel
theorem d_Co_judge_99 : decode b_Co_judge 99 = .ok (.ifCond .eq 12, 3) := by decide +kernel
theorem d_Co_judge_102 : decode b_Co_judge 102 = .ok (.aload_n 0, 1) := by decide +kernel
theorem d_Co_judge_103 : decode b_Co_judge 103 = .ok (.iconst 3, 1) := by decide +kernel
theorem d_Co_judge_104 : decode b_Co_judge 104 = .ok (.iload 4, 2) := by decide +kernel
theorem d_Co_judge_106 : decode b_Co_judge 106 = .ok (.iconst (-1), 1) := by decide +kernel
theorem d_Co_judge_107 : decode b_Co_judge 107 = .ok (.invokevirtual 47, 3) := by decide +kernel
theorem d_Co_judge_110 : decode b_Co_judge 110 = .ok (.return_, 1) := by decide +kernel
theorem d_Co_judge_111 : decode b_Co_judge 111 = .ok (.iinc 4 1, 3) := by decide +kernel
theorem d_Co_judge_114 : decode b_Co_judge 114 = .ok (.goto (-38), 3) := by decide +kernel
theorem d_Co_judge_117 : decode b_Co_judge 117 = .ok (.return_, 1) := by decide +kernel
set_option maxRecDepth 100000 in
set_option maxHeartbeats 4000000 in
theorem S_Co_judge_0 {G : Gc} {M : Mc} {Q : State → Prop} {K : Option Value → Hp → Prop} (hG : gok G) (hM : mok G M r_Co_judge Q K) (v0 : Nat) (v1 : Nat) (v2 : Nat) (v3 : Int32) (h : Hp) (F : kT h v0 = 6 ∧ sem G r_Co_findInside [.ref v0, .ref v1] h (fun u2 h1 => u2 = none ∧ (kT h1 v0 = 6 ∧ sem G r_Co_tell [.ref v0, .int 0, .int (-1), .int (-1)] h1 (fun u4 h3 => u4 = none ∧ (kT h3 v0 = 6 ∧ (∀ h5 : Hp, h5 = wI h3 v0 5 (-1) → (kT h5 v0 = 6 ∧ kR h5 v0 7 = some (rf h5 v0 7) ∧ (kT h5 (rf h5 v0 7) = 51 ∧ vp_in v3 (kN h5 (rf h5 v0 7)) ∧ (((kI h5 (rf h5 v0 7) (Int32.toNatClampNeg v3)) = 0 → (kT h5 v0 = 6 ∧ sem G r_Co_tell [.ref v0, .int 1, .int (-1), .int (-1)] h5 (fun u7 h6 => u7 = none ∧ K none h6))) ∧ (¬ (kI h5 (rf h5 v0 7) (Int32.toNatClampNeg v3)) = 0 → X G M Q 37 [(0, .ref v0), (1, .ref v1), (2, .ref v2), (4, .int 0)] [] h5)))))))))) : X G M Q 0 [(0, .ref v0), (1, .ref v1), (2, .ref v2), (3, .int v3)] [] h := by
  refine x_aload_n hM d_Co_judge_0 rfl 0 rfl ?_
  refine x_aload_n hM d_Co_judge_1 rfl 1 rfl ?_
  obtain ⟨c16, F⟩ := F
  refine x_callV hG hM (r' := r_Co_findInside) (ci := 5) [.ref v1] rfl rfl (Nat.le_of_ble_eq_true rfl) yk_Co_findInside ⟨Nat.le_of_ble_eq_true rfl, Nat.le_of_ble_eq_true rfl⟩ w_867 w_869 ws_Co_findInside rfl rfl (Nat.le_of_ble_eq_true rfl) d_Co_judge_2 c16 (sem_mono F ?_)
  intro u2 h1 F
  obtain ⟨rfl, F⟩ := F
  refine x_aload_n hM d_Co_judge_5 rfl 0 rfl ?_
  refine x_iconst (v := 0) hM d_Co_judge_6 (by decide) ?_
  refine x_iconst (v := (-1)) hM d_Co_judge_7 (by decide) ?_
  refine x_iconst (v := (-1)) hM d_Co_judge_8 (by decide) ?_
  obtain ⟨c15, F⟩ := F
  refine x_callV hG hM (r' := r_Co_tell) (ci := 5) [.int 0, .int (-1), .int (-1)] rfl rfl (Nat.le_of_ble_eq_true rfl) yk_Co_tell ⟨Nat.le_of_ble_eq_true rfl, Nat.le_of_ble_eq_true rfl⟩ w_877 w_879 ws_Co_tell rfl rfl (Nat.le_of_ble_eq_true rfl) d_Co_judge_9 c15 (sem_mono F ?_)
  intro u4 h3 F
  obtain ⟨rfl, F⟩ := F
  refine x_aload_n hM d_Co_judge_12 rfl 0 rfl ?_
  refine x_iconst (v := (-1)) hM d_Co_judge_13 (by decide) ?_
  obtain ⟨c14, F⟩ := F
  obtain ⟨h5, eh5⟩ : ∃ z : Hp, z = wI h3 v0 5 (-1) := ⟨_, rfl⟩
  replace F := F h5 eh5
  refine x_puti hG hM ck_Co 5 (Nat.le_of_ble_eq_true rfl) rfl rfl w_204 rfl d_Co_judge_14 (Or.inl rfl) c14 ?_
  rw [← eh5]
  clear eh5
  refine x_aload_n hM d_Co_judge_17 rfl 0 rfl ?_
  obtain ⟨c12, F⟩ := F
  obtain ⟨c13, F⟩ := F
  refine x_getr hG hM ck_Co 7 (Nat.le_of_ble_eq_true rfl) rfl rfl w_208 rfl d_Co_judge_18 c12 c13 ?_
  refine x_iload_n hM d_Co_judge_21 rfl 3 rfl ?_
  obtain ⟨c10, F⟩ := F
  obtain ⟨c11, F⟩ := F
  refine x_zaload hG hM d_Co_judge_22 c10 c11 ?_
  refine x_if_ne (tgt := 34) hM d_Co_judge_23 (by decide) (fun q9 => ?_) (fun q9 => ?_)
  · replace F := F.2 q9
    refine x_iconst (v := 0) hM d_Co_judge_34 (by decide) ?_
    refine x_istore (lv2 := [(4, .int 0), (0, .ref v0), (1, .ref v1), (2, .ref v2), (3, .int v3)]) hM d_Co_judge_35 (Nat.le_of_ble_eq_true rfl) rfl ?_
    refine x_sub [1, 2, 3, 0] rfl ?_
    exact F
  · replace F := F.1 q9
    refine x_aload_n hM d_Co_judge_26 rfl 0 rfl ?_
    refine x_iconst (v := 1) hM d_Co_judge_27 (by decide) ?_
    refine x_iconst (v := (-1)) hM d_Co_judge_28 (by decide) ?_
    refine x_iconst (v := (-1)) hM d_Co_judge_29 (by decide) ?_
    obtain ⟨c8, F⟩ := F
    refine x_callV hG hM (r' := r_Co_tell) (ci := 5) [.int 1, .int (-1), .int (-1)] rfl rfl (Nat.le_of_ble_eq_true rfl) yk_Co_tell ⟨Nat.le_of_ble_eq_true rfl, Nat.le_of_ble_eq_true rfl⟩ w_877 w_879 ws_Co_tell rfl rfl (Nat.le_of_ble_eq_true rfl) d_Co_judge_30 c8 (sem_mono F ?_)
    intro u7 h6 F
    obtain ⟨rfl, F⟩ := F
    exact x_return hM d_Co_judge_33 rfl F
set_option maxRecDepth 100000 in
set_option maxHeartbeats 4000000 in
theorem S_Co_judge_37 {G : Gc} {M : Mc} {Q : State → Prop} {K : Option Value → Hp → Prop} (hG : gok G) (hM : mok G M r_Co_judge Q K) (v0 : Nat) (v1 : Nat) (v2 : Nat) (v4 : Int32) (h : Hp) (F : kT h v1 = 2 ∧ (((kI h v1 1) ≤ v4 → X G M Q 76 [(0, .ref v0), (1, .ref v1), (2, .ref v2), (4, .int 0)] [] h) ∧ (¬ (kI h v1 1) ≤ v4 → (kT h v0 = 6 ∧ kR h v0 7 = some (rf h v0 7) ∧ (kT h (rf h v0 7) = 51 ∧ vp_in v4 (kN h (rf h v0 7)) ∧ (((kI h (rf h v0 7) (Int32.toNatClampNeg v4)) = 0 → X G M Q 37 [(0, .ref v0), (1, .ref v1), (2, .ref v2), (4, .int (v4 + 1))] [] h) ∧ (¬ (kI h (rf h v0 7) (Int32.toNatClampNeg v4)) = 0 → (kT h v0 = 6 ∧ sem G r_Co_leavesFrom [.ref v0, .ref v1, .int v4] h (fun u2 h1 => ∃ x3 : Int32, u2 = some (.int x3) ∧ ((x3 = 0 → X G M Q 37 [(0, .ref v0), (1, .ref v1), (2, .ref v2), (4, .int (v4 + 1))] [] h1) ∧ (¬ x3 = 0 → K none h1))))))))))) : X G M Q 37 [(0, .ref v0), (1, .ref v1), (2, .ref v2), (4, .int v4)] [] h := by
  refine x_iload hM d_Co_judge_37 3 rfl ?_
  refine x_aload_n hM d_Co_judge_39 rfl 1 rfl ?_
  obtain ⟨c12, F⟩ := F
  refine x_geti hG hM ck_Wo 1 (Nat.le_of_ble_eq_true rfl) rfl rfl w_130 rfl d_Co_judge_40 c12 ?_
  refine x_icmp_ge (tgt := 73) hM d_Co_judge_43 (by decide) (fun q11 => ?_) (fun q11 => ?_)
  · replace F := F.1 q11
    refine x_iconst (v := 0) hM d_Co_judge_73 (by decide) ?_
    refine x_istore (lv2 := [(4, .int 0), (0, .ref v0), (1, .ref v1), (2, .ref v2)]) hM d_Co_judge_74 (Nat.le_of_ble_eq_true rfl) rfl ?_
    refine x_sub [1, 2, 3, 0] rfl ?_
    exact F
  · replace F := F.2 q11
    refine x_aload_n hM d_Co_judge_46 rfl 0 rfl ?_
    obtain ⟨c9, F⟩ := F
    obtain ⟨c10, F⟩ := F
    refine x_getr hG hM ck_Co 7 (Nat.le_of_ble_eq_true rfl) rfl rfl w_208 rfl d_Co_judge_47 c9 c10 ?_
    refine x_iload hM d_Co_judge_50 3 rfl ?_
    obtain ⟨c7, F⟩ := F
    obtain ⟨c8, F⟩ := F
    refine x_zaload hG hM d_Co_judge_52 c7 c8 ?_
    refine x_if_eq (tgt := 67) hM d_Co_judge_53 (by decide) (fun q6 => ?_) (fun q6 => ?_)
    · replace F := F.1 q6
      refine x_iinc (v := (v4 + 1)) (lv2 := [(4, .int (v4 + 1)), (0, .ref v0), (1, .ref v1), (2, .ref v2)]) hM d_Co_judge_67 (j := 3) rfl rfl (Nat.le_of_ble_eq_true rfl) rfl ?_
      refine x_goto (tgt := 37) hM d_Co_judge_70 (by decide) ?_
      refine x_sub [1, 2, 3, 0] rfl ?_
      exact F
    · replace F := F.2 q6
      refine x_aload_n hM d_Co_judge_56 rfl 0 rfl ?_
      refine x_aload_n hM d_Co_judge_57 rfl 1 rfl ?_
      refine x_iload hM d_Co_judge_58 3 rfl ?_
      obtain ⟨c5, F⟩ := F
      refine x_callV hG hM (r' := r_Co_leavesFrom) (ci := 5) [.ref v1, .int v4] rfl rfl (Nat.le_of_ble_eq_true rfl) yk_Co_leavesFrom ⟨Nat.le_of_ble_eq_true rfl, Nat.le_of_ble_eq_true rfl⟩ w_881 w_883 ws_Co_leavesFrom rfl rfl (Nat.le_of_ble_eq_true rfl) d_Co_judge_60 c5 (sem_mono F ?_)
      intro u2 h1 F
      obtain ⟨x3, rfl, F⟩ := F
      refine x_if_eq (tgt := 67) hM d_Co_judge_63 (by decide) (fun q4 => ?_) (fun q4 => ?_)
      · replace F := F.1 q4
        refine x_iinc (v := (v4 + 1)) (lv2 := [(4, .int (v4 + 1)), (0, .ref v0), (1, .ref v1), (2, .ref v2)]) hM d_Co_judge_67 (j := 3) rfl rfl (Nat.le_of_ble_eq_true rfl) rfl ?_
        refine x_goto (tgt := 37) hM d_Co_judge_70 (by decide) ?_
        refine x_sub [1, 2, 3, 0] rfl ?_
        exact F
      · replace F := F.2 q4
        exact x_return hM d_Co_judge_66 rfl F
set_option maxRecDepth 100000 in
set_option maxHeartbeats 4000000 in
theorem S_Co_judge_76 {G : Gc} {M : Mc} {Q : State → Prop} {K : Option Value → Hp → Prop} (hG : gok G) (hM : mok G M r_Co_judge Q K) (v0 : Nat) (v1 : Nat) (v2 : Nat) (v4 : Int32) (h : Hp) (F : kT h v1 = 2 ∧ (((kI h v1 1) ≤ v4 → K none h) ∧ (¬ (kI h v1 1) ≤ v4 → (kT h v0 = 6 ∧ kR h v0 7 = some (rf h v0 7) ∧ (kT h (rf h v0 7) = 51 ∧ vp_in v4 (kN h (rf h v0 7)) ∧ (((kI h (rf h v0 7) (Int32.toNatClampNeg v4)) = 0 → X G M Q 76 [(0, .ref v0), (1, .ref v1), (2, .ref v2), (4, .int (v4 + 1))] [] h) ∧ (¬ (kI h (rf h v0 7) (Int32.toNatClampNeg v4)) = 0 → (kT h v2 = 51 ∧ vp_in v4 (kN h v2) ∧ (((kI h v2 (Int32.toNatClampNeg v4)) = 0 → X G M Q 76 [(0, .ref v0), (1, .ref v1), (2, .ref v2), (4, .int (v4 + 1))] [] h) ∧ (¬ (kI h v2 (Int32.toNatClampNeg v4)) = 0 → (kT h v0 = 6 ∧ sem G r_Co_tell [.ref v0, .int 3, .int v4, .int (-1)] h (fun u2 h1 => u2 = none ∧ K none h1)))))))))))) : X G M Q 76 [(0, .ref v0), (1, .ref v1), (2, .ref v2), (4, .int v4)] [] h := by
  refine x_iload hM d_Co_judge_76 3 rfl ?_
  refine x_aload_n hM d_Co_judge_78 rfl 1 rfl ?_
  obtain ⟨c13, F⟩ := F
  refine x_geti hG hM ck_Wo 1 (Nat.le_of_ble_eq_true rfl) rfl rfl w_130 rfl d_Co_judge_79 c13 ?_
  refine x_icmp_ge (tgt := 117) hM d_Co_judge_82 (by decide) (fun q12 => ?_) (fun q12 => ?_)
  · replace F := F.1 q12
    exact x_return hM d_Co_judge_117 rfl F
  · replace F := F.2 q12
    refine x_aload_n hM d_Co_judge_85 rfl 0 rfl ?_
    obtain ⟨c10, F⟩ := F
    obtain ⟨c11, F⟩ := F
    refine x_getr hG hM ck_Co 7 (Nat.le_of_ble_eq_true rfl) rfl rfl w_208 rfl d_Co_judge_86 c10 c11 ?_
    refine x_iload hM d_Co_judge_89 3 rfl ?_
    obtain ⟨c8, F⟩ := F
    obtain ⟨c9, F⟩ := F
    refine x_zaload hG hM d_Co_judge_91 c8 c9 ?_
    refine x_if_eq (tgt := 111) hM d_Co_judge_92 (by decide) (fun q7 => ?_) (fun q7 => ?_)
    · replace F := F.1 q7
      refine x_iinc (v := (v4 + 1)) (lv2 := [(4, .int (v4 + 1)), (0, .ref v0), (1, .ref v1), (2, .ref v2)]) hM d_Co_judge_111 (j := 3) rfl rfl (Nat.le_of_ble_eq_true rfl) rfl ?_
      refine x_goto (tgt := 76) hM d_Co_judge_114 (by decide) ?_
      refine x_sub [1, 2, 3, 0] rfl ?_
      exact F
    · replace F := F.2 q7
      refine x_aload_n hM d_Co_judge_95 rfl 2 rfl ?_
      refine x_iload hM d_Co_judge_96 3 rfl ?_
      obtain ⟨c5, F⟩ := F
      obtain ⟨c6, F⟩ := F
      refine x_zaload hG hM d_Co_judge_98 c5 c6 ?_
      refine x_if_eq (tgt := 111) hM d_Co_judge_99 (by decide) (fun q4 => ?_) (fun q4 => ?_)
      · replace F := F.1 q4
        refine x_iinc (v := (v4 + 1)) (lv2 := [(4, .int (v4 + 1)), (0, .ref v0), (1, .ref v1), (2, .ref v2)]) hM d_Co_judge_111 (j := 3) rfl rfl (Nat.le_of_ble_eq_true rfl) rfl ?_
        refine x_goto (tgt := 76) hM d_Co_judge_114 (by decide) ?_
        refine x_sub [1, 2, 3, 0] rfl ?_
        exact F
      · replace F := F.2 q4
        refine x_aload_n hM d_Co_judge_102 rfl 0 rfl ?_
        refine x_iconst (v := 3) hM d_Co_judge_103 (by decide) ?_
        refine x_iload hM d_Co_judge_104 3 rfl ?_
        refine x_iconst (v := (-1)) hM d_Co_judge_106 (by decide) ?_
        obtain ⟨c3, F⟩ := F
        refine x_callV hG hM (r' := r_Co_tell) (ci := 5) [.int 3, .int v4, .int (-1)] rfl rfl (Nat.le_of_ble_eq_true rfl) yk_Co_tell ⟨Nat.le_of_ble_eq_true rfl, Nat.le_of_ble_eq_true rfl⟩ w_877 w_879 ws_Co_tell rfl rfl (Nat.le_of_ble_eq_true rfl) d_Co_judge_107 c3 (sem_mono F ?_)
        intro u2 h1 F
        obtain ⟨rfl, F⟩ := F
        exact x_return hM d_Co_judge_110 rfl F
theorem d_Co_findInside_0 : decode b_Co_findInside 0 = .ok (.aload_n 0, 1) := by decide +kernel
theorem d_Co_findInside_1 : decode b_Co_findInside 1 = .ok (.aload_n 0, 1) := by decide +kernel
theorem d_Co_findInside_2 : decode b_Co_findInside 2 = .ok (.getfield 37, 3) := by decide +kernel
theorem d_Co_findInside_5 : decode b_Co_findInside 5 = .ok (.aload_n 1, 1) := by decide +kernel
theorem d_Co_findInside_6 : decode b_Co_findInside 6 = .ok (.getfield 51, 3) := by decide +kernel
theorem d_Co_findInside_9 : decode b_Co_findInside 9 = .ok (.invokestatic 60, 3) := by decide +kernel
theorem d_Co_findInside_12 : decode b_Co_findInside 12 = .ok (.putfield 37, 3) := by decide +kernel
theorem d_Co_findInside_15 : decode b_Co_findInside 15 = .ok (.iconst 0, 1) := by decide +kernel
theorem d_Co_findInside_16 : decode b_Co_findInside 16 = .ok (.istore_n 2, 1) := by decide +kernel
theorem d_Co_findInside_17 : decode b_Co_findInside 17 = .ok (.iload_n 2, 1) := by decide +kernel
theorem d_Co_findInside_18 : decode b_Co_findInside 18 = .ok (.aload_n 1, 1) := by decide +kernel
theorem d_Co_findInside_19 : decode b_Co_findInside 19 = .ok (.getfield 51, 3) := by decide +kernel
theorem d_Co_findInside_22 : decode b_Co_findInside 22 = .ok (.if_icmp .ge 25, 3) := by decide +kernel
theorem d_Co_findInside_25 : decode b_Co_findInside 25 = .ok (.aload_n 0, 1) := by decide +kernel
theorem d_Co_findInside_26 : decode b_Co_findInside 26 = .ok (.getfield 37, 3) := by decide +kernel
theorem d_Co_findInside_29 : decode b_Co_findInside 29 = .ok (.iload_n 2, 1) := by decide +kernel
theorem d_Co_findInside_30 : decode b_Co_findInside 30 = .ok (.aload_n 0, 1) := by decide +kernel
theorem d_Co_findInside_31 : decode b_Co_findInside 31 = .ok (.aload_n 1, 1) := by decide +kernel
theorem d_Co_findInside_32 : decode b_Co_findInside 32 = .ok (.getfield 64, 3) := by decide +kernel
theorem d_Co_findInside_35 : decode b_Co_findInside 35 = .ok (.iload_n 2, 1) := by decide +kernel
theorem d_Co_findInside_36 : decode b_Co_findInside 36 = .ok (.iaload, 1) := by decide +kernel
theorem d_Co_findInside_37 : decode b_Co_findInside 37 = .ok (.invokevirtual 68, 3) := by decide +kernel
theorem d_Co_findInside_40 : decode b_Co_findInside 40 = .ok (.bastore, 1) := by decide +kernel
theorem d_Co_findInside_41 : decode b_Co_findInside 41 = .ok (.iinc 2 1, 3) := by decide +kernel
theorem d_Co_findInside_44 : decode b_Co_findInside 44 = .ok (.goto (-27), 3) := by decide +kernel
theorem d_Co_findInside_47 : decode b_Co_findInside 47 = .ok (.return_, 1) := by decide +kernel
set_option maxRecDepth 100000 in
set_option maxHeartbeats 4000000 in
theorem S_Co_findInside_0 {G : Gc} {M : Mc} {Q : State → Prop} {K : Option Value → Hp → Prop} (hG : gok G) (hM : mok G M r_Co_findInside Q K) (v0 : Nat) (v1 : Nat) (h : Hp) (F : kT h v0 = 6 ∧ kR h v0 7 = some (rf h v0 7) ∧ (kT h v1 = 2 ∧ (sem G r_WP_marksFor [.ref (rf h v0 7), .int (kI h v1 1)] h (fun u2 h1 => ∃ x3 : Nat, u2 = some (.ref x3) ∧ (kT h1 v0 = 6 ∧ (∀ h4 : Hp, h4 = wR h1 v0 7 (some x3) → X G M Q 17 [(0, .ref v0), (1, .ref v1), (2, .int 0)] [] h4)))))) : X G M Q 0 [(0, .ref v0), (1, .ref v1)] [] h := by
  refine x_aload_n hM d_Co_findInside_0 rfl 0 rfl ?_
  refine x_aload_n hM d_Co_findInside_1 rfl 0 rfl ?_
  obtain ⟨c7, F⟩ := F
  obtain ⟨c8, F⟩ := F
  refine x_getr hG hM ck_Co 7 (Nat.le_of_ble_eq_true rfl) rfl rfl w_208 rfl d_Co_findInside_2 c7 c8 ?_
  refine x_aload_n hM d_Co_findInside_5 rfl 1 rfl ?_
  obtain ⟨c6, F⟩ := F
  refine x_geti hG hM ck_Wo 1 (Nat.le_of_ble_eq_true rfl) rfl rfl w_130 rfl d_Co_findInside_6 c6 ?_
  refine x_callSN hG hM (r' := r_WP_marksFor) [.ref (rf h v0 7), .int (kI h v1 1)] rfl yk_WP_marksFor ⟨Nat.le_of_ble_eq_true rfl, Nat.le_of_ble_eq_true rfl⟩ w_871 w_647 rfl rfl (Nat.le_of_ble_eq_true rfl) d_Co_findInside_9 (sem_mono F ?_)
  intro u2 h1 F
  obtain ⟨x3, rfl, F⟩ := F
  obtain ⟨c5, F⟩ := F
  obtain ⟨h4, eh4⟩ : ∃ z : Hp, z = wR h1 v0 7 (some x3) := ⟨_, rfl⟩
  replace F := F h4 eh4
  refine x_putr hG hM ck_Co 7 (Nat.le_of_ble_eq_true rfl) (Or.inr ⟨_, rfl⟩) rfl w_208 rfl d_Co_findInside_12 (Or.inl rfl) c5 ?_
  rw [← eh4]
  clear eh4
  refine x_iconst (v := 0) hM d_Co_findInside_15 (by decide) ?_
  refine x_istore_n (lv2 := [(2, .int 0), (0, .ref v0), (1, .ref v1)]) hM d_Co_findInside_16 rfl (Nat.le_of_ble_eq_true rfl) rfl ?_
  refine x_sub [1, 2, 0] rfl ?_
  exact F
set_option maxRecDepth 100000 in
set_option maxHeartbeats 4000000 in
theorem S_Co_findInside_17 {G : Gc} {M : Mc} {Q : State → Prop} {K : Option Value → Hp → Prop} (hG : gok G) (hM : mok G M r_Co_findInside Q K) (v0 : Nat) (v1 : Nat) (v2 : Int32) (h : Hp) (F : kT h v1 = 2 ∧ (((kI h v1 1) ≤ v2 → K none h) ∧ (¬ (kI h v1 1) ≤ v2 → (kT h v0 = 6 ∧ kR h v0 7 = some (rf h v0 7) ∧ (kT h v1 = 2 ∧ kR h v1 6 = some (rf h v1 6) ∧ (kT h (rf h v1 6) = 50 ∧ vp_in v2 (kN h (rf h v1 6)) ∧ (kT h v0 = 6 ∧ sem G r_Co_isInside [.ref v0, .int (kI h (rf h v1 6) (Int32.toNatClampNeg v2))] h (fun u2 h1 => ∃ x3 : Int32, u2 = some (.int x3) ∧ (kT h1 (rf h v0 7) = 51 ∧ vp_in v2 (kN h1 (rf h v0 7)) ∧ nb x3 ∧ (∀ h4 : Hp, h4 = wI h1 (rf h v0 7) (Int32.toNatClampNeg v2) x3 → X G M Q 17 [(0, .ref v0), (1, .ref v1), (2, .int (v2 + 1))] [] h4)))))))))) : X G M Q 17 [(0, .ref v0), (1, .ref v1), (2, .int v2)] [] h := by
  refine x_iload_n hM d_Co_findInside_17 rfl 2 rfl ?_
  refine x_aload_n hM d_Co_findInside_18 rfl 1 rfl ?_
  obtain ⟨c16, F⟩ := F
  refine x_geti hG hM ck_Wo 1 (Nat.le_of_ble_eq_true rfl) rfl rfl w_130 rfl d_Co_findInside_19 c16 ?_
  refine x_icmp_ge (tgt := 47) hM d_Co_findInside_22 (by decide) (fun q15 => ?_) (fun q15 => ?_)
  · replace F := F.1 q15
    exact x_return hM d_Co_findInside_47 rfl F
  · replace F := F.2 q15
    refine x_aload_n hM d_Co_findInside_25 rfl 0 rfl ?_
    obtain ⟨c13, F⟩ := F
    obtain ⟨c14, F⟩ := F
    refine x_getr hG hM ck_Co 7 (Nat.le_of_ble_eq_true rfl) rfl rfl w_208 rfl d_Co_findInside_26 c13 c14 ?_
    refine x_iload_n hM d_Co_findInside_29 rfl 2 rfl ?_
    refine x_aload_n hM d_Co_findInside_30 rfl 0 rfl ?_
    refine x_aload_n hM d_Co_findInside_31 rfl 1 rfl ?_
    obtain ⟨c11, F⟩ := F
    obtain ⟨c12, F⟩ := F
    refine x_getr hG hM ck_Wo 6 (Nat.le_of_ble_eq_true rfl) rfl rfl w_153 rfl d_Co_findInside_32 c11 c12 ?_
    refine x_iload_n hM d_Co_findInside_35 rfl 2 rfl ?_
    obtain ⟨c9, F⟩ := F
    obtain ⟨c10, F⟩ := F
    refine x_iaload hG hM d_Co_findInside_36 c9 c10 ?_
    obtain ⟨c8, F⟩ := F
    refine x_callV hG hM (r' := r_Co_isInside) (ci := 5) [.int (kI h (rf h v1 6) (Int32.toNatClampNeg v2))] rfl rfl (Nat.le_of_ble_eq_true rfl) yk_Co_isInside ⟨Nat.le_of_ble_eq_true rfl, Nat.le_of_ble_eq_true rfl⟩ w_872 w_874 ws_Co_isInside rfl rfl (Nat.le_of_ble_eq_true rfl) d_Co_findInside_37 c8 (sem_mono F ?_)
    intro u2 h1 F
    obtain ⟨x3, rfl, F⟩ := F
    obtain ⟨c5, F⟩ := F
    obtain ⟨c6, F⟩ := F
    obtain ⟨c7, F⟩ := F
    obtain ⟨h4, eh4⟩ : ∃ z : Hp, z = wI h1 (rf h v0 7) (Int32.toNatClampNeg v2) x3 := ⟨_, rfl⟩
    replace F := F h4 eh4
    refine x_zastore hG hM d_Co_findInside_40 c5 c6 c7 ?_
    rw [← eh4]
    clear eh4
    refine x_iinc (v := (v2 + 1)) (lv2 := [(2, .int (v2 + 1)), (0, .ref v0), (1, .ref v1)]) hM d_Co_findInside_41 (j := 2) rfl rfl (Nat.le_of_ble_eq_true rfl) rfl ?_
    refine x_goto (tgt := 17) hM d_Co_findInside_44 (by decide) ?_
    refine x_sub [1, 2, 0] rfl ?_
    exact F
theorem d_Co_isInside_0 : decode b_Co_isInside 0 = .ok (.iconst 0, 1) := by decide +kernel
theorem d_Co_isInside_1 : decode b_Co_isInside 1 = .ok (.istore_n 2, 1) := by decide +kernel
theorem d_Co_isInside_2 : decode b_Co_isInside 2 = .ok (.iload_n 2, 1) := by decide +kernel
theorem d_Co_isInside_3 : decode b_Co_isInside 3 = .ok (.aload_n 0, 1) := by decide +kernel
theorem d_Co_isInside_4 : decode b_Co_isInside 4 = .ok (.getfield 9, 3) := by decide +kernel
theorem d_Co_isInside_7 : decode b_Co_isInside 7 = .ok (.if_icmp .ge 24, 3) := by decide +kernel
theorem d_Co_isInside_10 : decode b_Co_isInside 10 = .ok (.aload_n 0, 1) := by decide +kernel
theorem d_Co_isInside_11 : decode b_Co_isInside 11 = .ok (.getfield 17, 3) := by decide +kernel
theorem d_Co_isInside_14 : decode b_Co_isInside 14 = .ok (.iload_n 2, 1) := by decide +kernel
theorem d_Co_isInside_15 : decode b_Co_isInside 15 = .ok (.aaload, 1) := by decide +kernel
theorem d_Co_isInside_16 : decode b_Co_isInside 16 = .ok (.iload_n 1, 1) := by decide +kernel
theorem d_Co_isInside_17 : decode b_Co_isInside 17 = .ok (.invokevirtual 72, 3) := by decide +kernel
theorem d_Co_isInside_20 : decode b_Co_isInside 20 = .ok (.ifCond .eq 5, 3) := by decide +kernel
theorem d_Co_isInside_23 : decode b_Co_isInside 23 = .ok (.iconst 1, 1) := by decide +kernel
theorem d_Co_isInside_24 : decode b_Co_isInside 24 = .ok (.ireturn, 1) := by decide +kernel
theorem d_Co_isInside_25 : decode b_Co_isInside 25 = .ok (.iinc 2 1, 3) := by decide +kernel
theorem d_Co_isInside_28 : decode b_Co_isInside 28 = .ok (.goto (-26), 3) := by decide +kernel
theorem d_Co_isInside_31 : decode b_Co_isInside 31 = .ok (.iconst 0, 1) := by decide +kernel
theorem d_Co_isInside_32 : decode b_Co_isInside 32 = .ok (.ireturn, 1) := by decide +kernel
set_option maxRecDepth 100000 in
set_option maxHeartbeats 4000000 in
theorem S_Co_isInside_0 {G : Gc} {M : Mc} {Q : State → Prop} {K : Option Value → Hp → Prop} (hG : gok G) (hM : mok G M r_Co_isInside Q K) (v0 : Nat) (v1 : Int32) (h : Hp) (F : X G M Q 2 [(0, .ref v0), (1, .int v1), (2, .int 0)] [] h) : X G M Q 0 [(0, .ref v0), (1, .int v1)] [] h := by
  refine x_iconst (v := 0) hM d_Co_isInside_0 (by decide) ?_
  refine x_istore_n (lv2 := [(2, .int 0), (0, .ref v0), (1, .int v1)]) hM d_Co_isInside_1 rfl (Nat.le_of_ble_eq_true rfl) rfl ?_
  refine x_sub [1, 2, 0] rfl ?_
  exact F
set_option maxRecDepth 100000 in
set_option maxHeartbeats 4000000 in
theorem S_Co_isInside_2 {G : Gc} {M : Mc} {Q : State → Prop} {K : Option Value → Hp → Prop} (hG : gok G) (hM : mok G M r_Co_isInside Q K) (v0 : Nat) (v1 : Int32) (v2 : Int32) (h : Hp) (F : kT h v0 = 6 ∧ (((kI h v0 0) ≤ v2 → K (some (.int 0)) h) ∧ (¬ (kI h v0 0) ≤ v2 → (kT h v0 = 6 ∧ kR h v0 1 = some (rf h v0 1) ∧ (kT h (rf h v0 1) = 55 ∧ vp_in v2 (kN h (rf h v0 1)) ∧ kR h (rf h v0 1) (Int32.toNatClampNeg v2) = some (rf h (rf h v0 1) (Int32.toNatClampNeg v2)) ∧ (kT h (rf h (rf h v0 1) (Int32.toNatClampNeg v2)) = 5 ∧ sem G r_Cl_hold [.ref (rf h (rf h v0 1) (Int32.toNatClampNeg v2)), .int v1] h (fun u2 h1 => ∃ x3 : Int32, u2 = some (.int x3) ∧ ((x3 = 0 → X G M Q 2 [(0, .ref v0), (1, .int v1), (2, .int (v2 + 1))] [] h1) ∧ (¬ x3 = 0 → K (some (.int 1)) h1))))))))) : X G M Q 2 [(0, .ref v0), (1, .int v1), (2, .int v2)] [] h := by
  refine x_iload_n hM d_Co_isInside_2 rfl 2 rfl ?_
  refine x_aload_n hM d_Co_isInside_3 rfl 0 rfl ?_
  obtain ⟨c12, F⟩ := F
  refine x_geti hG hM ck_Co 0 (Nat.le_of_ble_eq_true rfl) rfl rfl w_194 rfl d_Co_isInside_4 c12 ?_
  refine x_icmp_ge (tgt := 31) hM d_Co_isInside_7 (by decide) (fun q11 => ?_) (fun q11 => ?_)
  · replace F := F.1 q11
    refine x_iconst (v := 0) hM d_Co_isInside_31 (by decide) ?_
    exact x_zreturn hM d_Co_isInside_32 rfl (Or.inl rfl) F
  · replace F := F.2 q11
    refine x_aload_n hM d_Co_isInside_10 rfl 0 rfl ?_
    obtain ⟨c9, F⟩ := F
    obtain ⟨c10, F⟩ := F
    refine x_getr hG hM ck_Co 1 (Nat.le_of_ble_eq_true rfl) rfl rfl w_196 rfl d_Co_isInside_11 c9 c10 ?_
    refine x_iload_n hM d_Co_isInside_14 rfl 2 rfl ?_
    obtain ⟨c6, F⟩ := F
    obtain ⟨c7, F⟩ := F
    obtain ⟨c8, F⟩ := F
    refine x_aaload hG hM 55 rfl (Nat.le_of_ble_eq_true rfl) d_Co_isInside_15 c6 c7 c8 ?_
    refine x_iload_n hM d_Co_isInside_16 rfl 1 rfl ?_
    obtain ⟨c5, F⟩ := F
    refine x_callV hG hM (r' := r_Cl_hold) (ci := 4) [.int v1] rfl rfl (Nat.le_of_ble_eq_true rfl) yk_Cl_hold ⟨Nat.le_of_ble_eq_true rfl, Nat.le_of_ble_eq_true rfl⟩ w_876 w_554 w_555 rfl rfl (Nat.le_of_ble_eq_true rfl) d_Co_isInside_17 c5 (sem_mono F ?_)
    intro u2 h1 F
    obtain ⟨x3, rfl, F⟩ := F
    refine x_if_eq (tgt := 25) hM d_Co_isInside_20 (by decide) (fun q4 => ?_) (fun q4 => ?_)
    · replace F := F.1 q4
      refine x_iinc (v := (v2 + 1)) (lv2 := [(2, .int (v2 + 1)), (0, .ref v0), (1, .int v1)]) hM d_Co_isInside_25 (j := 2) rfl rfl (Nat.le_of_ble_eq_true rfl) rfl ?_
      refine x_goto (tgt := 2) hM d_Co_isInside_28 (by decide) ?_
      refine x_sub [1, 2, 0] rfl ?_
      exact F
    · replace F := F.2 q4
      refine x_iconst (v := 1) hM d_Co_isInside_23 (by decide) ?_
      exact x_zreturn hM d_Co_isInside_24 rfl (Or.inr rfl) F
theorem d_Co_tell_0 : decode b_Co_tell 0 = .ok (.aload_n 0, 1) := by decide +kernel
theorem d_Co_tell_1 : decode b_Co_tell 1 = .ok (.iload_n 1, 1) := by decide +kernel
theorem d_Co_tell_2 : decode b_Co_tell 2 = .ok (.putfield 21, 3) := by decide +kernel
theorem d_Co_tell_5 : decode b_Co_tell 5 = .ok (.aload_n 0, 1) := by decide +kernel
theorem d_Co_tell_6 : decode b_Co_tell 6 = .ok (.iload_n 2, 1) := by decide +kernel
theorem d_Co_tell_7 : decode b_Co_tell 7 = .ok (.putfield 24, 3) := by decide +kernel
theorem d_Co_tell_10 : decode b_Co_tell 10 = .ok (.aload_n 0, 1) := by decide +kernel
theorem d_Co_tell_11 : decode b_Co_tell 11 = .ok (.iload_n 3, 1) := by decide +kernel
theorem d_Co_tell_12 : decode b_Co_tell 12 = .ok (.putfield 27, 3) := by decide +kernel
theorem d_Co_tell_15 : decode b_Co_tell 15 = .ok (.return_, 1) := by decide +kernel
set_option maxRecDepth 100000 in
set_option maxHeartbeats 4000000 in
theorem S_Co_tell_0 {G : Gc} {M : Mc} {Q : State → Prop} {K : Option Value → Hp → Prop} (hG : gok G) (hM : mok G M r_Co_tell Q K) (v0 : Nat) (v1 : Int32) (v2 : Int32) (v3 : Int32) (h : Hp) (F : kT h v0 = 6 ∧ (∀ h1 : Hp, h1 = wI h v0 2 v1 → (kT h1 v0 = 6 ∧ (∀ h2 : Hp, h2 = wI h1 v0 3 v2 → (kT h2 v0 = 6 ∧ (∀ h3 : Hp, h3 = wI h2 v0 4 v3 → K none h3)))))) : X G M Q 0 [(0, .ref v0), (1, .int v1), (2, .int v2), (3, .int v3)] [] h := by
  refine x_aload_n hM d_Co_tell_0 rfl 0 rfl ?_
  refine x_iload_n hM d_Co_tell_1 rfl 1 rfl ?_
  obtain ⟨c6, F⟩ := F
  obtain ⟨h1, eh1⟩ : ∃ z : Hp, z = wI h v0 2 v1 := ⟨_, rfl⟩
  replace F := F h1 eh1
  refine x_puti hG hM ck_Co 2 (Nat.le_of_ble_eq_true rfl) rfl rfl w_198 rfl d_Co_tell_2 (Or.inl rfl) c6 ?_
  rw [← eh1]
  clear eh1
  refine x_aload_n hM d_Co_tell_5 rfl 0 rfl ?_
  refine x_iload_n hM d_Co_tell_6 rfl 2 rfl ?_
  obtain ⟨c5, F⟩ := F
  obtain ⟨h2, eh2⟩ : ∃ z : Hp, z = wI h1 v0 3 v2 := ⟨_, rfl⟩
  replace F := F h2 eh2
  refine x_puti hG hM ck_Co 3 (Nat.le_of_ble_eq_true rfl) rfl rfl w_200 rfl d_Co_tell_7 (Or.inl rfl) c5 ?_
  rw [← eh2]
  clear eh2
  refine x_aload_n hM d_Co_tell_10 rfl 0 rfl ?_
  refine x_iload_n hM d_Co_tell_11 rfl 3 rfl ?_
  obtain ⟨c4, F⟩ := F
  obtain ⟨h3, eh3⟩ : ∃ z : Hp, z = wI h2 v0 4 v3 := ⟨_, rfl⟩
  replace F := F h3 eh3
  refine x_puti hG hM ck_Co 4 (Nat.le_of_ble_eq_true rfl) rfl rfl w_202 rfl d_Co_tell_12 (Or.inl rfl) c4 ?_
  rw [← eh3]
  clear eh3
  exact x_return hM d_Co_tell_15 rfl F
theorem d_Co_leavesFrom_0 : decode b_Co_leavesFrom 0 = .ok (.iconst 0, 1) := by decide +kernel
theorem d_Co_leavesFrom_1 : decode b_Co_leavesFrom 1 = .ok (.istore_n 3, 1) := by decide +kernel
theorem d_Co_leavesFrom_2 : decode b_Co_leavesFrom 2 = .ok (.iload_n 3, 1) := by decide +kernel
theorem d_Co_leavesFrom_3 : decode b_Co_leavesFrom 3 = .ok (.aload_n 1, 1) := by decide +kernel
theorem d_Co_leavesFrom_4 : decode b_Co_leavesFrom 4 = .ok (.getfield 75, 3) := by decide +kernel
theorem d_Co_leavesFrom_7 : decode b_Co_leavesFrom 7 = .ok (.if_icmp .ge 82, 3) := by decide +kernel
theorem d_Co_leavesFrom_10 : decode b_Co_leavesFrom 10 = .ok (.aload_n 1, 1) := by decide +kernel
theorem d_Co_leavesFrom_11 : decode b_Co_leavesFrom 11 = .ok (.getfield 78, 3) := by decide +kernel
theorem d_Co_leavesFrom_14 : decode b_Co_leavesFrom 14 = .ok (.iload_n 3, 1) := by decide +kernel
theorem d_Co_leavesFrom_15 : decode b_Co_leavesFrom 15 = .ok (.aaload, 1) := by decide +kernel
theorem d_Co_leavesFrom_16 : decode b_Co_leavesFrom 16 = .ok (.astore 4, 2) := by decide +kernel
theorem d_Co_leavesFrom_18 : decode b_Co_leavesFrom 18 = .ok (.iconst 0, 1) := by decide +kernel
theorem d_Co_leavesFrom_19 : decode b_Co_leavesFrom 19 = .ok (.istore 5, 2) := by decide +kernel
theorem d_Co_leavesFrom_21 : decode b_Co_leavesFrom 21 = .ok (.iload 5, 2) := by decide +kernel
theorem d_Co_leavesFrom_23 : decode b_Co_leavesFrom 23 = .ok (.aload 4, 2) := by decide +kernel
theorem d_Co_leavesFrom_25 : decode b_Co_leavesFrom 25 = .ok (.getfield 82, 3) := by decide +kernel
theorem d_Co_leavesFrom_28 : decode b_Co_leavesFrom 28 = .ok (.if_icmp .ge 55, 3) := by decide +kernel
theorem d_Co_leavesFrom_31 : decode b_Co_leavesFrom 31 = .ok (.aload 4, 2) := by decide +kernel
theorem d_Co_leavesFrom_33 : decode b_Co_leavesFrom 33 = .ok (.getfield 87, 3) := by decide +kernel
theorem d_Co_leavesFrom_36 : decode b_Co_leavesFrom 36 = .ok (.iload 5, 2) := by decide +kernel
theorem d_Co_leavesFrom_38 : decode b_Co_leavesFrom 38 = .ok (.aaload, 1) := by decide +kernel
theorem d_Co_leavesFrom_39 : decode b_Co_leavesFrom 39 = .ok (.getfield 91, 3) := by decide +kernel
theorem d_Co_leavesFrom_42 : decode b_Co_leavesFrom 42 = .ok (.iload_n 2, 1) := by decide +kernel
theorem d_Co_leavesFrom_43 : decode b_Co_leavesFrom 43 = .ok (.iaload, 1) := by decide +kernel
theorem d_Co_leavesFrom_44 : decode b_Co_leavesFrom 44 = .ok (.istore 6, 2) := by decide +kernel
theorem d_Co_leavesFrom_46 : decode b_Co_leavesFrom 46 = .ok (.iload 6, 2) := by decide +kernel
theorem d_Co_leavesFrom_48 : decode b_Co_leavesFrom 48 = .ok (.iconst (-1), 1) := by decide +kernel
theorem d_Co_leavesFrom_49 : decode b_Co_leavesFrom 49 = .ok (.if_icmp .eq 28, 3) := by decide +kernel
theorem d_Co_leavesFrom_52 : decode b_Co_leavesFrom 52 = .ok (.aload_n 0, 1) := by decide +kernel
theorem d_Co_leavesFrom_53 : decode b_Co_leavesFrom 53 = .ok (.getfield 37, 3) := by decide +kernel
theorem d_Co_leavesFrom_56 : decode b_Co_leavesFrom 56 = .ok (.iload 6, 2) := by decide +kernel
theorem d_Co_leavesFrom_58 : decode b_Co_leavesFrom 58 = .ok (.baload, 1) := by decide +kernel
theorem d_Co_leavesFrom_59 : decode b_Co_leavesFrom 59 = .ok (.ifCond .ne 18, 3) := by decide +kernel
theorem d_Co_leavesFrom_62 : decode b_Co_leavesFrom 62 = .ok (.aload_n 0, 1) := by decide +kernel
theorem d_Co_leavesFrom_63 : decode b_Co_leavesFrom 63 = .ok (.iconst 2, 1) := by decide +kernel
theorem d_Co_leavesFrom_64 : decode b_Co_leavesFrom 64 = .ok (.iload_n 2, 1) := by decide +kernel
theorem d_Co_leavesFrom_65 : decode b_Co_leavesFrom 65 = .ok (.iload_n 3, 1) := by decide +kernel
theorem d_Co_leavesFrom_66 : decode b_Co_leavesFrom 66 = .ok (.invokevirtual 47, 3) := by decide +kernel
theorem d_Co_leavesFrom_69 : decode b_Co_leavesFrom 69 = .ok (.aload_n 0, 1) := by decide +kernel
theorem d_Co_leavesFrom_70 : decode b_Co_leavesFrom 70 = .ok (.iload 5, 2) := by decide +kernel
theorem d_Co_leavesFrom_72 : decode b_Co_leavesFrom 72 = .ok (.putfield 30, 3) := by decide +kernel
theorem d_Co_leavesFrom_75 : decode b_Co_leavesFrom 75 = .ok (.iconst 1, 1) := by decide +kernel
theorem d_Co_leavesFrom_76 : decode b_Co_leavesFrom 76 = .ok (.ireturn, 1) := by decide +kernel
theorem d_Co_leavesFrom_77 : decode b_Co_leavesFrom 77 = .ok (.iinc 5 1, 3) := by decide +kernel
theorem d_Co_leavesFrom_80 : decode b_Co_leavesFrom 80 = .ok (.goto (-59), 3) := by decide +kernel
theorem d_Co_leavesFrom_83 : decode b_Co_leavesFrom 83 = .ok (.iinc 3 1, 3) := by decide +kernel
theorem d_Co_leavesFrom_86 : decode b_Co_leavesFrom 86 = .ok (.goto (-84), 3) := by decide +kernel
theorem d_Co_leavesFrom_89 : decode b_Co_leavesFrom 89 = .ok (.iconst 0, 1) := by decide +kernel
theorem d_Co_leavesFrom_90 : decode b_Co_leavesFrom 90 = .ok (.ireturn, 1) := by decide +kernel
set_option maxRecDepth 100000 in
set_option maxHeartbeats 4000000 in
theorem S_Co_leavesFrom_0 {G : Gc} {M : Mc} {Q : State → Prop} {K : Option Value → Hp → Prop} (hG : gok G) (hM : mok G M r_Co_leavesFrom Q K) (v0 : Nat) (v1 : Nat) (v2 : Int32) (h : Hp) (F : X G M Q 2 [(0, .ref v0), (1, .ref v1), (2, .int v2), (3, .int 0)] [] h) : X G M Q 0 [(0, .ref v0), (1, .ref v1), (2, .int v2)] [] h := by
  refine x_iconst (v := 0) hM d_Co_leavesFrom_0 (by decide) ?_
  refine x_istore_n (lv2 := [(3, .int 0), (0, .ref v0), (1, .ref v1), (2, .int v2)]) hM d_Co_leavesFrom_1 rfl (Nat.le_of_ble_eq_true rfl) rfl ?_
  refine x_sub [1, 2, 3, 0] rfl ?_
  exact F
set_option maxRecDepth 100000 in
set_option maxHeartbeats 4000000 in
theorem S_Co_leavesFrom_2 {G : Gc} {M : Mc} {Q : State → Prop} {K : Option Value → Hp → Prop} (hG : gok G) (hM : mok G M r_Co_leavesFrom Q K) (v0 : Nat) (v1 : Nat) (v2 : Int32) (v3 : Int32) (h : Hp) (F : kT h v1 = 2 ∧ (((kI h v1 2) ≤ v3 → K (some (.int 0)) h) ∧ (¬ (kI h v1 2) ≤ v3 → (kT h v1 = 2 ∧ kR h v1 5 = some (rf h v1 5) ∧ (kT h (rf h v1 5) = 53 ∧ vp_in v3 (kN h (rf h v1 5)) ∧ kR h (rf h v1 5) (Int32.toNatClampNeg v3) = some (rf h (rf h v1 5) (Int32.toNatClampNeg v3)) ∧ X G M Q 21 [(0, .ref v0), (1, .ref v1), (2, .int v2), (3, .int v3), (4, .ref (rf h (rf h v1 5) (Int32.toNatClampNeg v3))), (5, .int 0)] [] h))))) : X G M Q 2 [(0, .ref v0), (1, .ref v1), (2, .int v2), (3, .int v3)] [] h := by
  refine x_iload_n hM d_Co_leavesFrom_2 rfl 3 rfl ?_
  refine x_aload_n hM d_Co_leavesFrom_3 rfl 1 rfl ?_
  obtain ⟨c7, F⟩ := F
  refine x_geti hG hM ck_Wo 2 (Nat.le_of_ble_eq_true rfl) rfl rfl w_138 rfl d_Co_leavesFrom_4 c7 ?_
  refine x_icmp_ge (tgt := 89) hM d_Co_leavesFrom_7 (by decide) (fun q6 => ?_) (fun q6 => ?_)
  · replace F := F.1 q6
    refine x_iconst (v := 0) hM d_Co_leavesFrom_89 (by decide) ?_
    exact x_zreturn hM d_Co_leavesFrom_90 rfl (Or.inl rfl) F
  · replace F := F.2 q6
    refine x_aload_n hM d_Co_leavesFrom_10 rfl 1 rfl ?_
    obtain ⟨c4, F⟩ := F
    obtain ⟨c5, F⟩ := F
    refine x_getr hG hM ck_Wo 5 (Nat.le_of_ble_eq_true rfl) rfl rfl w_149 rfl d_Co_leavesFrom_11 c4 c5 ?_
    refine x_iload_n hM d_Co_leavesFrom_14 rfl 3 rfl ?_
    obtain ⟨c1, F⟩ := F
    obtain ⟨c2, F⟩ := F
    obtain ⟨c3, F⟩ := F
    refine x_aaload hG hM 53 rfl (Nat.le_of_ble_eq_true rfl) d_Co_leavesFrom_15 c1 c2 c3 ?_
    refine x_astore (lv2 := [(4, .ref (rf h (rf h v1 5) (Int32.toNatClampNeg v3))), (0, .ref v0), (1, .ref v1), (2, .int v2), (3, .int v3)]) hM d_Co_leavesFrom_16 (Nat.le_of_ble_eq_true rfl) rfl ?_
    refine x_iconst (v := 0) hM d_Co_leavesFrom_18 (by decide) ?_
    refine x_istore (lv2 := [(5, .int 0), (4, .ref (rf h (rf h v1 5) (Int32.toNatClampNeg v3))), (0, .ref v0), (1, .ref v1), (2, .int v2), (3, .int v3)]) hM d_Co_leavesFrom_19 (Nat.le_of_ble_eq_true rfl) rfl ?_
    refine x_sub [2, 3, 4, 5, 1, 0] rfl ?_
    exact F
set_option maxRecDepth 100000 in
set_option maxHeartbeats 4000000 in
theorem S_Co_leavesFrom_21 {G : Gc} {M : Mc} {Q : State → Prop} {K : Option Value → Hp → Prop} (hG : gok G) (hM : mok G M r_Co_leavesFrom Q K) (v0 : Nat) (v1 : Nat) (v2 : Int32) (v3 : Int32) (v4 : Nat) (v5 : Int32) (h : Hp) (F : kT h v4 = 3 ∧ (((kI h v4 2) ≤ v5 → X G M Q 2 [(0, .ref v0), (1, .ref v1), (2, .int v2), (3, .int (v3 + 1))] [] h) ∧ (¬ (kI h v4 2) ≤ v5 → (kT h v4 = 3 ∧ kR h v4 1 = some (rf h v4 1) ∧ (kT h (rf h v4 1) = 54 ∧ vp_in v5 (kN h (rf h v4 1)) ∧ kR h (rf h v4 1) (Int32.toNatClampNeg v5) = some (rf h (rf h v4 1) (Int32.toNatClampNeg v5)) ∧ (kT h (rf h (rf h v4 1) (Int32.toNatClampNeg v5)) = 4 ∧ kR h (rf h (rf h v4 1) (Int32.toNatClampNeg v5)) 1 = some (rf h (rf h (rf h v4 1) (Int32.toNatClampNeg v5)) 1) ∧ (kT h (rf h (rf h (rf h v4 1) (Int32.toNatClampNeg v5)) 1) = 50 ∧ vp_in v2 (kN h (rf h (rf h (rf h v4 1) (Int32.toNatClampNeg v5)) 1)) ∧ (((kI h (rf h (rf h (rf h v4 1) (Int32.toNatClampNeg v5)) 1) (Int32.toNatClampNeg v2)) = (-1) → X G M Q 21 [(0, .ref v0), (1, .ref v1), (2, .int v2), (3, .int v3), (4, .ref v4), (5, .int (v5 + 1))] [] h) ∧ (¬ (kI h (rf h (rf h (rf h v4 1) (Int32.toNatClampNeg v5)) 1) (Int32.toNatClampNeg v2)) = (-1) → (kT h v0 = 6 ∧ kR h v0 7 = some (rf h v0 7) ∧ (kT h (rf h v0 7) = 51 ∧ vp_in (kI h (rf h (rf h (rf h v4 1) (Int32.toNatClampNeg v5)) 1) (Int32.toNatClampNeg v2)) (kN h (rf h v0 7)) ∧ (((kI h (rf h v0 7) (Int32.toNatClampNeg (kI h (rf h (rf h (rf h v4 1) (Int32.toNatClampNeg v5)) 1) (Int32.toNatClampNeg v2)))) = 0 → (kT h v0 = 6 ∧ sem G r_Co_tell [.ref v0, .int 2, .int v2, .int v3] h (fun u2 h1 => u2 = none ∧ (kT h1 v0 = 6 ∧ (∀ h3 : Hp, h3 = wI h1 v0 5 v5 → K (some (.int 1)) h3))))) ∧ (¬ (kI h (rf h v0 7) (Int32.toNatClampNeg (kI h (rf h (rf h (rf h v4 1) (Int32.toNatClampNeg v5)) 1) (Int32.toNatClampNeg v2)))) = 0 → X G M Q 21 [(0, .ref v0), (1, .ref v1), (2, .int v2), (3, .int v3), (4, .ref v4), (5, .int (v5 + 1))] [] h))))))))))))) : X G M Q 21 [(0, .ref v0), (1, .ref v1), (2, .int v2), (3, .int v3), (4, .ref v4), (5, .int v5)] [] h := by
  refine x_iload hM d_Co_leavesFrom_21 5 rfl ?_
  refine x_aload hM d_Co_leavesFrom_23 4 rfl ?_
  obtain ⟨c22, F⟩ := F
  refine x_geti hG hM ck_Ac 2 (Nat.le_of_ble_eq_true rfl) rfl rfl w_107 rfl d_Co_leavesFrom_25 c22 ?_
  refine x_icmp_ge (tgt := 83) hM d_Co_leavesFrom_28 (by decide) (fun q21 => ?_) (fun q21 => ?_)
  · replace F := F.1 q21
    refine x_iinc (v := (v3 + 1)) (lv2 := [(3, .int (v3 + 1)), (0, .ref v0), (1, .ref v1), (2, .int v2), (4, .ref v4), (5, .int v5)]) hM d_Co_leavesFrom_83 (j := 3) rfl rfl (Nat.le_of_ble_eq_true rfl) rfl ?_
    refine x_goto (tgt := 2) hM d_Co_leavesFrom_86 (by decide) ?_
    refine x_sub [1, 2, 3, 0] rfl ?_
    exact F
  · replace F := F.2 q21
    refine x_aload hM d_Co_leavesFrom_31 4 rfl ?_
    obtain ⟨c19, F⟩ := F
    obtain ⟨c20, F⟩ := F
    refine x_getr hG hM ck_Ac 1 (Nat.le_of_ble_eq_true rfl) rfl rfl w_99 rfl d_Co_leavesFrom_33 c19 c20 ?_
    refine x_iload hM d_Co_leavesFrom_36 5 rfl ?_
    obtain ⟨c16, F⟩ := F
    obtain ⟨c17, F⟩ := F
    obtain ⟨c18, F⟩ := F
    refine x_aaload hG hM 54 rfl (Nat.le_of_ble_eq_true rfl) d_Co_leavesFrom_38 c16 c17 c18 ?_
    obtain ⟨c14, F⟩ := F
    obtain ⟨c15, F⟩ := F
    refine x_getr hG hM ck_Ou 1 (Nat.le_of_ble_eq_true rfl) rfl rfl w_80 rfl d_Co_leavesFrom_39 c14 c15 ?_
    refine x_iload_n hM d_Co_leavesFrom_42 rfl 2 rfl ?_
    obtain ⟨c12, F⟩ := F
    obtain ⟨c13, F⟩ := F
    refine x_iaload hG hM d_Co_leavesFrom_43 c12 c13 ?_
    refine x_istore (lv2 := [(6, .int (kI h (rf h (rf h (rf h v4 1) (Int32.toNatClampNeg v5)) 1) (Int32.toNatClampNeg v2))), (0, .ref v0), (1, .ref v1), (2, .int v2), (3, .int v3), (4, .ref v4), (5, .int v5)]) hM d_Co_leavesFrom_44 (Nat.le_of_ble_eq_true rfl) rfl ?_
    refine x_iload hM d_Co_leavesFrom_46 0 rfl ?_
    refine x_iconst (v := (-1)) hM d_Co_leavesFrom_48 (by decide) ?_
    refine x_icmp_eq (tgt := 77) hM d_Co_leavesFrom_49 (by decide) (fun q11 => ?_) (fun q11 => ?_)
    · replace F := F.1 q11
      refine x_iinc (v := (v5 + 1)) (lv2 := [(5, .int (v5 + 1)), (6, .int (kI h (rf h (rf h (rf h v4 1) (Int32.toNatClampNeg v5)) 1) (Int32.toNatClampNeg v2))), (0, .ref v0), (1, .ref v1), (2, .int v2), (3, .int v3), (4, .ref v4)]) hM d_Co_leavesFrom_77 (j := 6) rfl rfl (Nat.le_of_ble_eq_true rfl) rfl ?_
      refine x_goto (tgt := 21) hM d_Co_leavesFrom_80 (by decide) ?_
      refine x_sub [2, 3, 4, 5, 6, 0] rfl ?_
      exact F
    · replace F := F.2 q11
      refine x_aload_n hM d_Co_leavesFrom_52 rfl 1 rfl ?_
      obtain ⟨c9, F⟩ := F
      obtain ⟨c10, F⟩ := F
      refine x_getr hG hM ck_Co 7 (Nat.le_of_ble_eq_true rfl) rfl rfl w_208 rfl d_Co_leavesFrom_53 c9 c10 ?_
      refine x_iload hM d_Co_leavesFrom_56 0 rfl ?_
      obtain ⟨c7, F⟩ := F
      obtain ⟨c8, F⟩ := F
      refine x_zaload hG hM d_Co_leavesFrom_58 c7 c8 ?_
      refine x_if_ne (tgt := 77) hM d_Co_leavesFrom_59 (by decide) (fun q6 => ?_) (fun q6 => ?_)
      · replace F := F.2 q6
        refine x_iinc (v := (v5 + 1)) (lv2 := [(5, .int (v5 + 1)), (6, .int (kI h (rf h (rf h (rf h v4 1) (Int32.toNatClampNeg v5)) 1) (Int32.toNatClampNeg v2))), (0, .ref v0), (1, .ref v1), (2, .int v2), (3, .int v3), (4, .ref v4)]) hM d_Co_leavesFrom_77 (j := 6) rfl rfl (Nat.le_of_ble_eq_true rfl) rfl ?_
        refine x_goto (tgt := 21) hM d_Co_leavesFrom_80 (by decide) ?_
        refine x_sub [2, 3, 4, 5, 6, 0] rfl ?_
        exact F
      · replace F := F.1 q6
        refine x_aload_n hM d_Co_leavesFrom_62 rfl 1 rfl ?_
        refine x_iconst (v := 2) hM d_Co_leavesFrom_63 (by decide) ?_
        refine x_iload_n hM d_Co_leavesFrom_64 rfl 3 rfl ?_
        refine x_iload_n hM d_Co_leavesFrom_65 rfl 4 rfl ?_
        obtain ⟨c5, F⟩ := F
        refine x_callV hG hM (r' := r_Co_tell) (ci := 5) [.int 2, .int v2, .int v3] rfl rfl (Nat.le_of_ble_eq_true rfl) yk_Co_tell ⟨Nat.le_of_ble_eq_true rfl, Nat.le_of_ble_eq_true rfl⟩ w_877 w_879 ws_Co_tell rfl rfl (Nat.le_of_ble_eq_true rfl) d_Co_leavesFrom_66 c5 (sem_mono F ?_)
        intro u2 h1 F
        obtain ⟨rfl, F⟩ := F
        refine x_aload_n hM d_Co_leavesFrom_69 rfl 1 rfl ?_
        refine x_iload hM d_Co_leavesFrom_70 6 rfl ?_
        obtain ⟨c4, F⟩ := F
        obtain ⟨h3, eh3⟩ : ∃ z : Hp, z = wI h1 v0 5 v5 := ⟨_, rfl⟩
        replace F := F h3 eh3
        refine x_puti hG hM ck_Co 5 (Nat.le_of_ble_eq_true rfl) rfl rfl w_204 rfl d_Co_leavesFrom_72 (Or.inl rfl) c4 ?_
        rw [← eh3]
        clear eh3
        refine x_iconst (v := 1) hM d_Co_leavesFrom_75 (by decide) ?_
        exact x_zreturn hM d_Co_leavesFrom_76 rfl (Or.inr rfl) F
