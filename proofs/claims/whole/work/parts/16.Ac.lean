theorem d_Ac_init_0 : decode b_Ac_init 0 = .ok (.aload_n 0, 1) := by decide +kernel
theorem d_Ac_init_1 : decode b_Ac_init 1 = .ok (.invokespecial 3, 3) := by decide +kernel
theorem d_Ac_init_4 : decode b_Ac_init 4 = .ok (.aload_n 0, 1) := by decide +kernel
theorem d_Ac_init_5 : decode b_Ac_init 5 = .ok (.new 9, 3) := by decide +kernel
theorem d_Ac_init_8 : decode b_Ac_init 8 = .ok (.dup, 1) := by decide +kernel
theorem d_Ac_init_9 : decode b_Ac_init 9 = .ok (.invokespecial 11, 3) := by decide +kernel
theorem d_Ac_init_12 : decode b_Ac_init 12 = .ok (.putfield 12, 3) := by decide +kernel
theorem d_Ac_init_15 : decode b_Ac_init 15 = .ok (.aload_n 0, 1) := by decide +kernel
theorem d_Ac_init_16 : decode b_Ac_init 16 = .ok (.iconst 3, 1) := by decide +kernel
theorem d_Ac_init_17 : decode b_Ac_init 17 = .ok (.anewarray 18, 3) := by decide +kernel
theorem d_Ac_init_20 : decode b_Ac_init 20 = .ok (.putfield 20, 3) := by decide +kernel
theorem d_Ac_init_23 : decode b_Ac_init 23 = .ok (.aload_n 0, 1) := by decide +kernel
theorem d_Ac_init_24 : decode b_Ac_init 24 = .ok (.iconst 1, 1) := by decide +kernel
theorem d_Ac_init_25 : decode b_Ac_init 25 = .ok (.putfield 24, 3) := by decide +kernel
theorem d_Ac_init_28 : decode b_Ac_init 28 = .ok (.aload_n 0, 1) := by decide +kernel
theorem d_Ac_init_29 : decode b_Ac_init 29 = .ok (.iconst 0, 1) := by decide +kernel
theorem d_Ac_init_30 : decode b_Ac_init 30 = .ok (.putfield 28, 3) := by decide +kernel
theorem d_Ac_init_33 : decode b_Ac_init 33 = .ok (.iconst 0, 1) := by decide +kernel
theorem d_Ac_init_34 : decode b_Ac_init 34 = .ok (.istore_n 1, 1) := by decide +kernel
theorem d_Ac_init_35 : decode b_Ac_init 35 = .ok (.iload_n 1, 1) := by decide +kernel
theorem d_Ac_init_36 : decode b_Ac_init 36 = .ok (.iconst 3, 1) := by decide +kernel
theorem d_Ac_init_37 : decode b_Ac_init 37 = .ok (.if_icmp .ge 22, 3) := by decide +kernel
theorem d_Ac_init_40 : decode b_Ac_init 40 = .ok (.aload_n 0, 1) := by decide +kernel
theorem d_Ac_init_41 : decode b_Ac_init 41 = .ok (.getfield 20, 3) := by decide +kernel
theorem d_Ac_init_44 : decode b_Ac_init 44 = .ok (.iload_n 1, 1) := by decide +kernel
theorem d_Ac_init_45 : decode b_Ac_init 45 = .ok (.new 18, 3) := by decide +kernel
theorem d_Ac_init_48 : decode b_Ac_init 48 = .ok (.dup, 1) := by decide +kernel
theorem d_Ac_init_49 : decode b_Ac_init 49 = .ok (.invokespecial 32, 3) := by decide +kernel
theorem d_Ac_init_52 : decode b_Ac_init 52 = .ok (.aastore, 1) := by decide +kernel
theorem d_Ac_init_53 : decode b_Ac_init 53 = .ok (.iinc 1 1, 3) := by decide +kernel
theorem d_Ac_init_56 : decode b_Ac_init 56 = .ok (.goto (-21), 3) := by decide +kernel
theorem d_Ac_init_59 : decode b_Ac_init 59 = .ok (.return_, 1) := by decide +kernel
set_option maxRecDepth 100000 in
set_option maxHeartbeats 4000000 in
theorem S_Ac_init_0 {G : Gc} {M : Mc} {Q : State → Prop} {K : Option Value → Hp → Prop} (hG : gok G) (hM : mok G M r_Ac_init Q K) (v0 : Nat) (h : Hp) (F : kX h + 1 ≤ gB G + capC ∧ kS h + 4 ≤ capS ∧ (∀ h1 : Hp, h1 = wA h 5 0 4 → (sem G r_Cl_init [.ref (kX h)] h1 (fun u3 h2 => u3 = none ∧ (kT h2 v0 = 3 ∧ (∀ h4 : Hp, h4 = wR h2 v0 0 (some (kX h)) → (kX h4 + 1 ≤ gB G + capC ∧ kS h4 + 3 ≤ capS ∧ (∀ h5 : Hp, h5 = wA h4 54 3 3 → (kT h5 v0 = 3 ∧ (∀ h6 : Hp, h6 = wR h5 v0 1 (some (kX h4)) → (kT h6 v0 = 3 ∧ (∀ h7 : Hp, h7 = wI h6 v0 2 1 → (kT h7 v0 = 3 ∧ (∀ h8 : Hp, h8 = wI h7 v0 3 0 → X G M Q 35 [(0, .ref v0), (1, .int 0)] [] h8)))))))))))))) : X G M Q 0 [(0, .ref v0)] [] h := by
  refine x_aload_n hM d_Ac_init_0 rfl 0 rfl ?_
  refine x_objInit hG hM rfl w_36 w_22 w_objcode d_Ac_init_1 (Nat.le_of_ble_eq_true rfl) (Nat.le_of_ble_eq_true rfl) (Nat.le_of_ble_eq_true rfl) ?_
  refine x_aload_n hM d_Ac_init_4 rfl 0 rfl ?_
  obtain ⟨c15, F⟩ := F
  obtain ⟨c16, F⟩ := F
  obtain ⟨h1, eh1⟩ : ∃ z : Hp, z = wA h 5 0 4 := ⟨_, rfl⟩
  replace F := F h1 eh1
  refine x_new hG hM ck_Cl rfl w_37 w_38 w_4 dv_Cl d_Ac_init_5 c15 c16 ?_
  rw [← eh1]
  clear eh1
  refine x_dup hM d_Ac_init_8 rfl ?_
  refine x_callIN hG hM (r' := r_Cl_init) [] rfl yk_Cl_init rfl rfl ⟨Nat.le_of_ble_eq_true rfl, Nat.le_of_ble_eq_true rfl⟩ w_39 w_40 rfl rfl (Nat.le_of_ble_eq_true rfl) d_Ac_init_9 (sem_mono F ?_)
  intro u3 h2 F
  obtain ⟨rfl, F⟩ := F
  obtain ⟨c14, F⟩ := F
  obtain ⟨h4, eh4⟩ : ∃ z : Hp, z = wR h2 v0 0 (some (kX h)) := ⟨_, rfl⟩
  replace F := F h4 eh4
  refine x_putr hG hM ck_Ac 0 (Nat.le_of_ble_eq_true rfl) (Or.inl ⟨_, rfl⟩) rfl w_94 rfl d_Ac_init_12 (Or.inr ⟨rfl, rfl, rfl⟩) c14 ?_
  rw [← eh4]
  clear eh4
  refine x_aload_n hM d_Ac_init_15 rfl 0 rfl ?_
  refine x_iconst (v := 3) hM d_Ac_init_16 (by decide) ?_
  obtain ⟨c12, F⟩ := F
  obtain ⟨c13, F⟩ := F
  obtain ⟨h5, eh5⟩ : ∃ z : Hp, z = wA h4 54 3 3 := ⟨_, rfl⟩
  replace F := F h5 eh5
  refine x_anew hG hM 54 (N := 3) rfl w_64 w_65 rfl (Nat.le_of_ble_eq_true rfl) d_Ac_init_17 (by decide) rfl c12 c13 ?_
  rw [← eh5]
  clear eh5
  obtain ⟨c11, F⟩ := F
  obtain ⟨h6, eh6⟩ : ∃ z : Hp, z = wR h5 v0 1 (some (kX h4)) := ⟨_, rfl⟩
  replace F := F h6 eh6
  refine x_putr hG hM ck_Ac 1 (Nat.le_of_ble_eq_true rfl) (Or.inr ⟨_, rfl⟩) rfl w_96 rfl d_Ac_init_20 (Or.inr ⟨rfl, rfl, rfl⟩) c11 ?_
  rw [← eh6]
  clear eh6
  refine x_aload_n hM d_Ac_init_23 rfl 0 rfl ?_
  refine x_iconst (v := 1) hM d_Ac_init_24 (by decide) ?_
  obtain ⟨c10, F⟩ := F
  obtain ⟨h7, eh7⟩ : ∃ z : Hp, z = wI h6 v0 2 1 := ⟨_, rfl⟩
  replace F := F h7 eh7
  refine x_puti hG hM ck_Ac 2 (Nat.le_of_ble_eq_true rfl) rfl rfl w_104 rfl d_Ac_init_25 (Or.inl rfl) c10 ?_
  rw [← eh7]
  clear eh7
  refine x_aload_n hM d_Ac_init_28 rfl 0 rfl ?_
  refine x_iconst (v := 0) hM d_Ac_init_29 (by decide) ?_
  obtain ⟨c9, F⟩ := F
  obtain ⟨h8, eh8⟩ : ∃ z : Hp, z = wI h7 v0 3 0 := ⟨_, rfl⟩
  replace F := F h8 eh8
  refine x_putz hG hM ck_Ac 3 (Nat.le_of_ble_eq_true rfl) rfl rfl w_111 rfl d_Ac_init_30 (Or.inl rfl) c9 (Or.inl rfl) ?_
  rw [← eh8]
  clear eh8
  refine x_iconst (v := 0) hM d_Ac_init_33 (by decide) ?_
  refine x_istore_n (lv2 := [(1, .int 0), (0, .ref v0)]) hM d_Ac_init_34 rfl (Nat.le_of_ble_eq_true rfl) rfl ?_
  refine x_sub [1, 0] rfl ?_
  exact F
set_option maxRecDepth 100000 in
set_option maxHeartbeats 4000000 in
theorem S_Ac_init_35 {G : Gc} {M : Mc} {Q : State → Prop} {K : Option Value → Hp → Prop} (hG : gok G) (hM : mok G M r_Ac_init Q K) (v0 : Nat) (v1 : Int32) (h : Hp) (F : (3 ≤ v1 → K none h) ∧ (¬ 3 ≤ v1 → (kT h v0 = 3 ∧ kR h v0 1 = some (rf h v0 1) ∧ (kX h + 1 ≤ gB G + capC ∧ kS h + 3 ≤ capS ∧ (∀ h1 : Hp, h1 = wA h 4 0 3 → (sem G r_Ou_init [.ref (kX h)] h1 (fun u3 h2 => u3 = none ∧ (kT h2 (rf h v0 1) = 54 ∧ kT h2 (kX h) = 4 ∧ vp_in v1 (kN h2 (rf h v0 1)) ∧ (∀ h4 : Hp, h4 = wR h2 (rf h v0 1) (Int32.toNatClampNeg v1) (some (kX h)) → X G M Q 35 [(0, .ref v0), (1, .int (v1 + 1))] [] h4))))))))) : X G M Q 35 [(0, .ref v0), (1, .int v1)] [] h := by
  refine x_iload_n hM d_Ac_init_35 rfl 1 rfl ?_
  refine x_iconst (v := 3) hM d_Ac_init_36 (by decide) ?_
  refine x_icmp_ge (tgt := 59) hM d_Ac_init_37 (by decide) (fun q12 => ?_) (fun q12 => ?_)
  · replace F := F.1 q12
    exact x_return hM d_Ac_init_59 rfl F
  · replace F := F.2 q12
    refine x_aload_n hM d_Ac_init_40 rfl 0 rfl ?_
    obtain ⟨c10, F⟩ := F
    obtain ⟨c11, F⟩ := F
    refine x_getr hG hM ck_Ac 1 (Nat.le_of_ble_eq_true rfl) rfl rfl w_96 rfl d_Ac_init_41 c10 c11 ?_
    refine x_iload_n hM d_Ac_init_44 rfl 1 rfl ?_
    obtain ⟨c8, F⟩ := F
    obtain ⟨c9, F⟩ := F
    obtain ⟨h1, eh1⟩ : ∃ z : Hp, z = wA h 4 0 3 := ⟨_, rfl⟩
    replace F := F h1 eh1
    refine x_new hG hM ck_Ou rfl w_64 w_66 w_5 dv_Ou d_Ac_init_45 c8 c9 ?_
    rw [← eh1]
    clear eh1
    refine x_dup hM d_Ac_init_48 rfl ?_
    refine x_callIN hG hM (r' := r_Ou_init) [] rfl yk_Ou_init rfl rfl ⟨Nat.le_of_ble_eq_true rfl, Nat.le_of_ble_eq_true rfl⟩ w_67 w_68 rfl rfl (Nat.le_of_ble_eq_true rfl) d_Ac_init_49 (sem_mono F ?_)
    intro u3 h2 F
    obtain ⟨rfl, F⟩ := F
    obtain ⟨c5, F⟩ := F
    obtain ⟨c6, F⟩ := F
    obtain ⟨c7, F⟩ := F
    obtain ⟨h4, eh4⟩ : ∃ z : Hp, z = wR h2 (rf h v0 1) (Int32.toNatClampNeg v1) (some (kX h)) := ⟨_, rfl⟩
    replace F := F h4 eh4
    refine x_aastore hG hM 54 3 rfl (Nat.le_of_ble_eq_true rfl) rfl (Nat.le_of_ble_eq_true rfl) d_Ac_init_52 c5 c6 c7 ?_
    rw [← eh4]
    clear eh4
    refine x_iinc (v := (v1 + 1)) (lv2 := [(1, .int (v1 + 1)), (0, .ref v0)]) hM d_Ac_init_53 (j := 1) rfl rfl (Nat.le_of_ble_eq_true rfl) rfl ?_
    refine x_goto (tgt := 35) hM d_Ac_init_56 (by decide) ?_
    refine x_sub [1, 0] rfl ?_
    exact F
theorem d_Ac_beginAnew_0 : decode b_Ac_beginAnew 0 = .ok (.aload_n 0, 1) := by decide +kernel
theorem d_Ac_beginAnew_1 : decode b_Ac_beginAnew 1 = .ok (.getfield 12, 3) := by decide +kernel
theorem d_Ac_beginAnew_4 : decode b_Ac_beginAnew 4 = .ok (.iconst 0, 1) := by decide +kernel
theorem d_Ac_beginAnew_5 : decode b_Ac_beginAnew 5 = .ok (.putfield 33, 3) := by decide +kernel
theorem d_Ac_beginAnew_8 : decode b_Ac_beginAnew 8 = .ok (.aload_n 0, 1) := by decide +kernel
theorem d_Ac_beginAnew_9 : decode b_Ac_beginAnew 9 = .ok (.getfield 20, 3) := by decide +kernel
theorem d_Ac_beginAnew_12 : decode b_Ac_beginAnew 12 = .ok (.iconst 0, 1) := by decide +kernel
theorem d_Ac_beginAnew_13 : decode b_Ac_beginAnew 13 = .ok (.aaload, 1) := by decide +kernel
theorem d_Ac_beginAnew_14 : decode b_Ac_beginAnew 14 = .ok (.getfield 36, 3) := by decide +kernel
theorem d_Ac_beginAnew_17 : decode b_Ac_beginAnew 17 = .ok (.iconst 0, 1) := by decide +kernel
theorem d_Ac_beginAnew_18 : decode b_Ac_beginAnew 18 = .ok (.putfield 33, 3) := by decide +kernel
theorem d_Ac_beginAnew_21 : decode b_Ac_beginAnew 21 = .ok (.aload_n 0, 1) := by decide +kernel
theorem d_Ac_beginAnew_22 : decode b_Ac_beginAnew 22 = .ok (.iconst 1, 1) := by decide +kernel
theorem d_Ac_beginAnew_23 : decode b_Ac_beginAnew 23 = .ok (.putfield 24, 3) := by decide +kernel
theorem d_Ac_beginAnew_26 : decode b_Ac_beginAnew 26 = .ok (.aload_n 0, 1) := by decide +kernel
theorem d_Ac_beginAnew_27 : decode b_Ac_beginAnew 27 = .ok (.iconst 0, 1) := by decide +kernel
theorem d_Ac_beginAnew_28 : decode b_Ac_beginAnew 28 = .ok (.putfield 28, 3) := by decide +kernel
theorem d_Ac_beginAnew_31 : decode b_Ac_beginAnew 31 = .ok (.return_, 1) := by decide +kernel
set_option maxRecDepth 100000 in
set_option maxHeartbeats 4000000 in
theorem S_Ac_beginAnew_0 {G : Gc} {M : Mc} {Q : State → Prop} {K : Option Value → Hp → Prop} (hG : gok G) (hM : mok G M r_Ac_beginAnew Q K) (v0 : Nat) (h : Hp) (F : kT h v0 = 3 ∧ kR h v0 0 = some (rf h v0 0) ∧ (kT h (rf h v0 0) = 5 ∧ (∀ h1 : Hp, h1 = wI h (rf h v0 0) 0 0 → (kT h1 v0 = 3 ∧ kR h1 v0 1 = some (rf h1 v0 1) ∧ (kT h1 (rf h1 v0 1) = 54 ∧ vp_in 0 (kN h1 (rf h1 v0 1)) ∧ kR h1 (rf h1 v0 1) (Int32.toNatClampNeg 0) = some (rf h1 (rf h1 v0 1) (Int32.toNatClampNeg 0)) ∧ (kT h1 (rf h1 (rf h1 v0 1) (Int32.toNatClampNeg 0)) = 4 ∧ kR h1 (rf h1 (rf h1 v0 1) (Int32.toNatClampNeg 0)) 0 = some (rf h1 (rf h1 (rf h1 v0 1) (Int32.toNatClampNeg 0)) 0) ∧ (kT h1 (rf h1 (rf h1 (rf h1 v0 1) (Int32.toNatClampNeg 0)) 0) = 5 ∧ (∀ h2 : Hp, h2 = wI h1 (rf h1 (rf h1 (rf h1 v0 1) (Int32.toNatClampNeg 0)) 0) 0 0 → (kT h2 v0 = 3 ∧ (∀ h3 : Hp, h3 = wI h2 v0 2 1 → (kT h3 v0 = 3 ∧ (∀ h4 : Hp, h4 = wI h3 v0 3 0 → K none h4)))))))))))) : X G M Q 0 [(0, .ref v0)] [] h := by
  refine x_aload_n hM d_Ac_beginAnew_0 rfl 0 rfl ?_
  obtain ⟨c16, F⟩ := F
  obtain ⟨c17, F⟩ := F
  refine x_getr hG hM ck_Ac 0 (Nat.le_of_ble_eq_true rfl) rfl rfl w_94 rfl d_Ac_beginAnew_1 c16 c17 ?_
  refine x_iconst (v := 0) hM d_Ac_beginAnew_4 (by decide) ?_
  obtain ⟨c15, F⟩ := F
  obtain ⟨h1, eh1⟩ : ∃ z : Hp, z = wI h (rf h v0 0) 0 0 := ⟨_, rfl⟩
  replace F := F h1 eh1
  refine x_puti hG hM ck_Cl 0 (Nat.le_of_ble_eq_true rfl) rfl rfl w_44 rfl d_Ac_beginAnew_5 (Or.inl rfl) c15 ?_
  rw [← eh1]
  clear eh1
  refine x_aload_n hM d_Ac_beginAnew_8 rfl 0 rfl ?_
  obtain ⟨c13, F⟩ := F
  obtain ⟨c14, F⟩ := F
  refine x_getr hG hM ck_Ac 1 (Nat.le_of_ble_eq_true rfl) rfl rfl w_96 rfl d_Ac_beginAnew_9 c13 c14 ?_
  refine x_iconst (v := 0) hM d_Ac_beginAnew_12 (by decide) ?_
  obtain ⟨c10, F⟩ := F
  obtain ⟨c11, F⟩ := F
  obtain ⟨c12, F⟩ := F
  refine x_aaload hG hM 54 rfl (Nat.le_of_ble_eq_true rfl) d_Ac_beginAnew_13 c10 c11 c12 ?_
  obtain ⟨c8, F⟩ := F
  obtain ⟨c9, F⟩ := F
  refine x_getr hG hM ck_Ou 0 (Nat.le_of_ble_eq_true rfl) rfl rfl w_74 rfl d_Ac_beginAnew_14 c8 c9 ?_
  refine x_iconst (v := 0) hM d_Ac_beginAnew_17 (by decide) ?_
  obtain ⟨c7, F⟩ := F
  obtain ⟨h2, eh2⟩ : ∃ z : Hp, z = wI h1 (rf h1 (rf h1 (rf h1 v0 1) (Int32.toNatClampNeg 0)) 0) 0 0 := ⟨_, rfl⟩
  replace F := F h2 eh2
  refine x_puti hG hM ck_Cl 0 (Nat.le_of_ble_eq_true rfl) rfl rfl w_44 rfl d_Ac_beginAnew_18 (Or.inl rfl) c7 ?_
  rw [← eh2]
  clear eh2
  refine x_aload_n hM d_Ac_beginAnew_21 rfl 0 rfl ?_
  refine x_iconst (v := 1) hM d_Ac_beginAnew_22 (by decide) ?_
  obtain ⟨c6, F⟩ := F
  obtain ⟨h3, eh3⟩ : ∃ z : Hp, z = wI h2 v0 2 1 := ⟨_, rfl⟩
  replace F := F h3 eh3
  refine x_puti hG hM ck_Ac 2 (Nat.le_of_ble_eq_true rfl) rfl rfl w_104 rfl d_Ac_beginAnew_23 (Or.inl rfl) c6 ?_
  rw [← eh3]
  clear eh3
  refine x_aload_n hM d_Ac_beginAnew_26 rfl 0 rfl ?_
  refine x_iconst (v := 0) hM d_Ac_beginAnew_27 (by decide) ?_
  obtain ⟨c5, F⟩ := F
  obtain ⟨h4, eh4⟩ : ∃ z : Hp, z = wI h3 v0 3 0 := ⟨_, rfl⟩
  replace F := F h4 eh4
  refine x_putz hG hM ck_Ac 3 (Nat.le_of_ble_eq_true rfl) rfl rfl w_111 rfl d_Ac_beginAnew_28 (Or.inl rfl) c5 (Or.inl rfl) ?_
  rw [← eh4]
  clear eh4
  exact x_return hM d_Ac_beginAnew_31 rfl F
theorem d_Ac_addOutcome_0 : decode b_Ac_addOutcome 0 = .ok (.aload_n 0, 1) := by decide +kernel
theorem d_Ac_addOutcome_1 : decode b_Ac_addOutcome 1 = .ok (.getfield 24, 3) := by decide +kernel
theorem d_Ac_addOutcome_4 : decode b_Ac_addOutcome 4 = .ok (.iconst 3, 1) := by decide +kernel
theorem d_Ac_addOutcome_5 : decode b_Ac_addOutcome 5 = .ok (.if_icmp .lt 6, 3) := by decide +kernel
theorem d_Ac_addOutcome_8 : decode b_Ac_addOutcome 8 = .ok (.bipush (-3), 2) := by decide +kernel
theorem d_Ac_addOutcome_10 : decode b_Ac_addOutcome 10 = .ok (.ireturn, 1) := by decide +kernel
theorem d_Ac_addOutcome_11 : decode b_Ac_addOutcome 11 = .ok (.aload_n 0, 1) := by decide +kernel
theorem d_Ac_addOutcome_12 : decode b_Ac_addOutcome 12 = .ok (.getfield 20, 3) := by decide +kernel
theorem d_Ac_addOutcome_15 : decode b_Ac_addOutcome 15 = .ok (.aload_n 0, 1) := by decide +kernel
theorem d_Ac_addOutcome_16 : decode b_Ac_addOutcome 16 = .ok (.getfield 24, 3) := by decide +kernel
theorem d_Ac_addOutcome_19 : decode b_Ac_addOutcome 19 = .ok (.aaload, 1) := by decide +kernel
theorem d_Ac_addOutcome_20 : decode b_Ac_addOutcome 20 = .ok (.getfield 36, 3) := by decide +kernel
theorem d_Ac_addOutcome_23 : decode b_Ac_addOutcome 23 = .ok (.iconst 0, 1) := by decide +kernel
theorem d_Ac_addOutcome_24 : decode b_Ac_addOutcome 24 = .ok (.putfield 33, 3) := by decide +kernel
theorem d_Ac_addOutcome_27 : decode b_Ac_addOutcome 27 = .ok (.aload_n 0, 1) := by decide +kernel
theorem d_Ac_addOutcome_28 : decode b_Ac_addOutcome 28 = .ok (.dup, 1) := by decide +kernel
theorem d_Ac_addOutcome_29 : decode b_Ac_addOutcome 29 = .ok (.getfield 24, 3) := by decide +kernel
theorem d_Ac_addOutcome_32 : decode b_Ac_addOutcome 32 = .ok (.iconst 1, 1) := by decide +kernel
theorem d_Ac_addOutcome_33 : decode b_Ac_addOutcome 33 = .ok (.iadd, 1) := by decide +kernel
theorem d_Ac_addOutcome_34 : decode b_Ac_addOutcome 34 = .ok (.putfield 24, 3) := by decide +kernel
theorem d_Ac_addOutcome_37 : decode b_Ac_addOutcome 37 = .ok (.aload_n 0, 1) := by decide +kernel
theorem d_Ac_addOutcome_38 : decode b_Ac_addOutcome 38 = .ok (.getfield 24, 3) := by decide +kernel
theorem d_Ac_addOutcome_41 : decode b_Ac_addOutcome 41 = .ok (.iconst 1, 1) := by decide +kernel
theorem d_Ac_addOutcome_42 : decode b_Ac_addOutcome 42 = .ok (.isub, 1) := by decide +kernel
theorem d_Ac_addOutcome_43 : decode b_Ac_addOutcome 43 = .ok (.ireturn, 1) := by decide +kernel
set_option maxRecDepth 100000 in
set_option maxHeartbeats 4000000 in
theorem S_Ac_addOutcome_0 {G : Gc} {M : Mc} {Q : State → Prop} {K : Option Value → Hp → Prop} (hG : gok G) (hM : mok G M r_Ac_addOutcome Q K) (v0 : Nat) (h : Hp) (F : kT h v0 = 3 ∧ (((kI h v0 2) < 3 → (kT h v0 = 3 ∧ kR h v0 1 = some (rf h v0 1) ∧ (kT h v0 = 3 ∧ (kT h (rf h v0 1) = 54 ∧ vp_in (kI h v0 2) (kN h (rf h v0 1)) ∧ kR h (rf h v0 1) (Int32.toNatClampNeg (kI h v0 2)) = some (rf h (rf h v0 1) (Int32.toNatClampNeg (kI h v0 2))) ∧ (kT h (rf h (rf h v0 1) (Int32.toNatClampNeg (kI h v0 2))) = 4 ∧ kR h (rf h (rf h v0 1) (Int32.toNatClampNeg (kI h v0 2))) 0 = some (rf h (rf h (rf h v0 1) (Int32.toNatClampNeg (kI h v0 2))) 0) ∧ (kT h (rf h (rf h (rf h v0 1) (Int32.toNatClampNeg (kI h v0 2))) 0) = 5 ∧ (∀ h1 : Hp, h1 = wI h (rf h (rf h (rf h v0 1) (Int32.toNatClampNeg (kI h v0 2))) 0) 0 0 → (kT h1 v0 = 3 ∧ (kT h1 v0 = 3 ∧ (∀ h2 : Hp, h2 = wI h1 v0 2 ((kI h1 v0 2) + 1) → (kT h2 v0 = 3 ∧ K (some (.int ((kI h2 v0 2) - 1))) h2))))))))))) ∧ (¬ (kI h v0 2) < 3 → K (some (.int (-3))) h))) : X G M Q 0 [(0, .ref v0)] [] h := by
  refine x_aload_n hM d_Ac_addOutcome_0 rfl 0 rfl ?_
  obtain ⟨c16, F⟩ := F
  refine x_geti hG hM ck_Ac 2 (Nat.le_of_ble_eq_true rfl) rfl rfl w_104 rfl d_Ac_addOutcome_1 c16 ?_
  refine x_iconst (v := 3) hM d_Ac_addOutcome_4 (by decide) ?_
  refine x_icmp_lt (tgt := 11) hM d_Ac_addOutcome_5 (by decide) (fun q15 => ?_) (fun q15 => ?_)
  · replace F := F.1 q15
    refine x_aload_n hM d_Ac_addOutcome_11 rfl 0 rfl ?_
    obtain ⟨c13, F⟩ := F
    obtain ⟨c14, F⟩ := F
    refine x_getr hG hM ck_Ac 1 (Nat.le_of_ble_eq_true rfl) rfl rfl w_96 rfl d_Ac_addOutcome_12 c13 c14 ?_
    refine x_aload_n hM d_Ac_addOutcome_15 rfl 0 rfl ?_
    obtain ⟨c12, F⟩ := F
    refine x_geti hG hM ck_Ac 2 (Nat.le_of_ble_eq_true rfl) rfl rfl w_104 rfl d_Ac_addOutcome_16 c12 ?_
    obtain ⟨c9, F⟩ := F
    obtain ⟨c10, F⟩ := F
    obtain ⟨c11, F⟩ := F
    refine x_aaload hG hM 54 rfl (Nat.le_of_ble_eq_true rfl) d_Ac_addOutcome_19 c9 c10 c11 ?_
    obtain ⟨c7, F⟩ := F
    obtain ⟨c8, F⟩ := F
    refine x_getr hG hM ck_Ou 0 (Nat.le_of_ble_eq_true rfl) rfl rfl w_74 rfl d_Ac_addOutcome_20 c7 c8 ?_
    refine x_iconst (v := 0) hM d_Ac_addOutcome_23 (by decide) ?_
    obtain ⟨c6, F⟩ := F
    obtain ⟨h1, eh1⟩ : ∃ z : Hp, z = wI h (rf h (rf h (rf h v0 1) (Int32.toNatClampNeg (kI h v0 2))) 0) 0 0 := ⟨_, rfl⟩
    replace F := F h1 eh1
    refine x_puti hG hM ck_Cl 0 (Nat.le_of_ble_eq_true rfl) rfl rfl w_44 rfl d_Ac_addOutcome_24 (Or.inl rfl) c6 ?_
    rw [← eh1]
    clear eh1
    refine x_aload_n hM d_Ac_addOutcome_27 rfl 0 rfl ?_
    refine x_dup hM d_Ac_addOutcome_28 rfl ?_
    obtain ⟨c5, F⟩ := F
    refine x_geti hG hM ck_Ac 2 (Nat.le_of_ble_eq_true rfl) rfl rfl w_104 rfl d_Ac_addOutcome_29 c5 ?_
    refine x_iconst (v := 1) hM d_Ac_addOutcome_32 (by decide) ?_
    refine x_iadd hM d_Ac_addOutcome_33 ?_
    obtain ⟨c4, F⟩ := F
    obtain ⟨h2, eh2⟩ : ∃ z : Hp, z = wI h1 v0 2 ((kI h1 v0 2) + 1) := ⟨_, rfl⟩
    replace F := F h2 eh2
    refine x_puti hG hM ck_Ac 2 (Nat.le_of_ble_eq_true rfl) rfl rfl w_104 rfl d_Ac_addOutcome_34 (Or.inl rfl) c4 ?_
    rw [← eh2]
    clear eh2
    refine x_aload_n hM d_Ac_addOutcome_37 rfl 0 rfl ?_
    obtain ⟨c3, F⟩ := F
    refine x_geti hG hM ck_Ac 2 (Nat.le_of_ble_eq_true rfl) rfl rfl w_104 rfl d_Ac_addOutcome_38 c3 ?_
    refine x_iconst (v := 1) hM d_Ac_addOutcome_41 (by decide) ?_
    refine x_isub hM d_Ac_addOutcome_42 ?_
    exact x_ireturn hM d_Ac_addOutcome_43 rfl F
  · replace F := F.2 q15
    refine x_bipush (v := (-3)) hM d_Ac_addOutcome_8 (by decide) ?_
    exact x_ireturn hM d_Ac_addOutcome_10 rfl F
theorem d_Ac_fillRows_0 : decode b_Ac_fillRows 0 = .ok (.iconst 0, 1) := by decide +kernel
theorem d_Ac_fillRows_1 : decode b_Ac_fillRows 1 = .ok (.istore_n 2, 1) := by decide +kernel
theorem d_Ac_fillRows_2 : decode b_Ac_fillRows 2 = .ok (.iload_n 2, 1) := by decide +kernel
theorem d_Ac_fillRows_3 : decode b_Ac_fillRows 3 = .ok (.aload_n 0, 1) := by decide +kernel
theorem d_Ac_fillRows_4 : decode b_Ac_fillRows 4 = .ok (.getfield 24, 3) := by decide +kernel
theorem d_Ac_fillRows_7 : decode b_Ac_fillRows 7 = .ok (.if_icmp .ge 46, 3) := by decide +kernel
theorem d_Ac_fillRows_10 : decode b_Ac_fillRows 10 = .ok (.aload_n 0, 1) := by decide +kernel
theorem d_Ac_fillRows_11 : decode b_Ac_fillRows 11 = .ok (.getfield 20, 3) := by decide +kernel
theorem d_Ac_fillRows_14 : decode b_Ac_fillRows 14 = .ok (.iload_n 2, 1) := by decide +kernel
theorem d_Ac_fillRows_15 : decode b_Ac_fillRows 15 = .ok (.aaload, 1) := by decide +kernel
theorem d_Ac_fillRows_16 : decode b_Ac_fillRows 16 = .ok (.astore_n 3, 1) := by decide +kernel
theorem d_Ac_fillRows_17 : decode b_Ac_fillRows 17 = .ok (.aload_n 3, 1) := by decide +kernel
theorem d_Ac_fillRows_18 : decode b_Ac_fillRows 18 = .ok (.aload_n 3, 1) := by decide +kernel
theorem d_Ac_fillRows_19 : decode b_Ac_fillRows 19 = .ok (.getfield 39, 3) := by decide +kernel
theorem d_Ac_fillRows_22 : decode b_Ac_fillRows 22 = .ok (.aload_n 1, 1) := by decide +kernel
theorem d_Ac_fillRows_23 : decode b_Ac_fillRows 23 = .ok (.getfield 43, 3) := by decide +kernel
theorem d_Ac_fillRows_26 : decode b_Ac_fillRows 26 = .ok (.invokestatic 48, 3) := by decide +kernel
theorem d_Ac_fillRows_29 : decode b_Ac_fillRows 29 = .ok (.putfield 39, 3) := by decide +kernel
theorem d_Ac_fillRows_32 : decode b_Ac_fillRows 32 = .ok (.aload_n 3, 1) := by decide +kernel
theorem d_Ac_fillRows_33 : decode b_Ac_fillRows 33 = .ok (.aload_n 3, 1) := by decide +kernel
theorem d_Ac_fillRows_34 : decode b_Ac_fillRows 34 = .ok (.getfield 52, 3) := by decide +kernel
theorem d_Ac_fillRows_37 : decode b_Ac_fillRows 37 = .ok (.aload_n 1, 1) := by decide +kernel
theorem d_Ac_fillRows_38 : decode b_Ac_fillRows 38 = .ok (.getfield 43, 3) := by decide +kernel
theorem d_Ac_fillRows_41 : decode b_Ac_fillRows 41 = .ok (.invokestatic 48, 3) := by decide +kernel
theorem d_Ac_fillRows_44 : decode b_Ac_fillRows 44 = .ok (.putfield 52, 3) := by decide +kernel
theorem d_Ac_fillRows_47 : decode b_Ac_fillRows 47 = .ok (.iinc 2 1, 3) := by decide +kernel
theorem d_Ac_fillRows_50 : decode b_Ac_fillRows 50 = .ok (.goto (-48), 3) := by decide +kernel
theorem d_Ac_fillRows_53 : decode b_Ac_fillRows 53 = .ok (.iconst 0, 1) := by decide +kernel
theorem d_Ac_fillRows_54 : decode b_Ac_fillRows 54 = .ok (.istore_n 2, 1) := by decide +kernel
theorem d_Ac_fillRows_55 : decode b_Ac_fillRows 55 = .ok (.iload_n 2, 1) := by decide +kernel
theorem d_Ac_fillRows_56 : decode b_Ac_fillRows 56 = .ok (.aload_n 1, 1) := by decide +kernel
theorem d_Ac_fillRows_57 : decode b_Ac_fillRows 57 = .ok (.getfield 43, 3) := by decide +kernel
theorem d_Ac_fillRows_60 : decode b_Ac_fillRows 60 = .ok (.if_icmp .ge 81, 3) := by decide +kernel
theorem d_Ac_fillRows_63 : decode b_Ac_fillRows 63 = .ok (.aload_n 1, 1) := by decide +kernel
theorem d_Ac_fillRows_64 : decode b_Ac_fillRows 64 = .ok (.getfield 55, 3) := by decide +kernel
theorem d_Ac_fillRows_67 : decode b_Ac_fillRows 67 = .ok (.iload_n 2, 1) := by decide +kernel
theorem d_Ac_fillRows_68 : decode b_Ac_fillRows 68 = .ok (.iaload, 1) := by decide +kernel
theorem d_Ac_fillRows_69 : decode b_Ac_fillRows 69 = .ok (.istore_n 3, 1) := by decide +kernel
theorem d_Ac_fillRows_70 : decode b_Ac_fillRows 70 = .ok (.aload_n 0, 1) := by decide +kernel
theorem d_Ac_fillRows_71 : decode b_Ac_fillRows 71 = .ok (.getfield 12, 3) := by decide +kernel
theorem d_Ac_fillRows_74 : decode b_Ac_fillRows 74 = .ok (.iload_n 3, 1) := by decide +kernel
theorem d_Ac_fillRows_75 : decode b_Ac_fillRows 75 = .ok (.invokevirtual 58, 3) := by decide +kernel
theorem d_Ac_fillRows_78 : decode b_Ac_fillRows 78 = .ok (.istore 4, 2) := by decide +kernel
theorem d_Ac_fillRows_80 : decode b_Ac_fillRows 80 = .ok (.iconst 0, 1) := by decide +kernel
theorem d_Ac_fillRows_81 : decode b_Ac_fillRows 81 = .ok (.istore 5, 2) := by decide +kernel
theorem d_Ac_fillRows_83 : decode b_Ac_fillRows 83 = .ok (.iload 5, 2) := by decide +kernel
theorem d_Ac_fillRows_85 : decode b_Ac_fillRows 85 = .ok (.aload_n 0, 1) := by decide +kernel
theorem d_Ac_fillRows_86 : decode b_Ac_fillRows 86 = .ok (.getfield 24, 3) := by decide +kernel
theorem d_Ac_fillRows_89 : decode b_Ac_fillRows 89 = .ok (.if_icmp .ge 46, 3) := by decide +kernel
theorem d_Ac_fillRows_92 : decode b_Ac_fillRows 92 = .ok (.aload_n 0, 1) := by decide +kernel
theorem d_Ac_fillRows_93 : decode b_Ac_fillRows 93 = .ok (.getfield 20, 3) := by decide +kernel
theorem d_Ac_fillRows_96 : decode b_Ac_fillRows 96 = .ok (.iload 5, 2) := by decide +kernel
theorem d_Ac_fillRows_98 : decode b_Ac_fillRows 98 = .ok (.aaload, 1) := by decide +kernel
theorem d_Ac_fillRows_99 : decode b_Ac_fillRows 99 = .ok (.getfield 39, 3) := by decide +kernel
theorem d_Ac_fillRows_102 : decode b_Ac_fillRows 102 = .ok (.iload_n 2, 1) := by decide +kernel
theorem d_Ac_fillRows_103 : decode b_Ac_fillRows 103 = .ok (.iload 4, 2) := by decide +kernel
theorem d_Ac_fillRows_105 : decode b_Ac_fillRows 105 = .ok (.ifCond .eq 22, 3) := by decide +kernel
theorem d_Ac_fillRows_108 : decode b_Ac_fillRows 108 = .ok (.aload_n 1, 1) := by decide +kernel
theorem d_Ac_fillRows_109 : decode b_Ac_fillRows 109 = .ok (.aload_n 0, 1) := by decide +kernel
theorem d_Ac_fillRows_110 : decode b_Ac_fillRows 110 = .ok (.getfield 20, 3) := by decide +kernel
theorem d_Ac_fillRows_113 : decode b_Ac_fillRows 113 = .ok (.iload 5, 2) := by decide +kernel
theorem d_Ac_fillRows_115 : decode b_Ac_fillRows 115 = .ok (.aaload, 1) := by decide +kernel
theorem d_Ac_fillRows_116 : decode b_Ac_fillRows 116 = .ok (.getfield 36, 3) := by decide +kernel
theorem d_Ac_fillRows_119 : decode b_Ac_fillRows 119 = .ok (.iload_n 2, 1) := by decide +kernel
theorem d_Ac_fillRows_120 : decode b_Ac_fillRows 120 = .ok (.iload_n 3, 1) := by decide +kernel
theorem d_Ac_fillRows_121 : decode b_Ac_fillRows 121 = .ok (.invokevirtual 62, 3) := by decide +kernel
theorem d_Ac_fillRows_124 : decode b_Ac_fillRows 124 = .ok (.goto 4, 3) := by decide +kernel
theorem d_Ac_fillRows_127 : decode b_Ac_fillRows 127 = .ok (.iconst (-1), 1) := by decide +kernel
theorem d_Ac_fillRows_128 : decode b_Ac_fillRows 128 = .ok (.iastore, 1) := by decide +kernel
theorem d_Ac_fillRows_129 : decode b_Ac_fillRows 129 = .ok (.iinc 5 1, 3) := by decide +kernel
theorem d_Ac_fillRows_132 : decode b_Ac_fillRows 132 = .ok (.goto (-49), 3) := by decide +kernel
theorem d_Ac_fillRows_135 : decode b_Ac_fillRows 135 = .ok (.iinc 2 1, 3) := by decide +kernel
theorem d_Ac_fillRows_138 : decode b_Ac_fillRows 138 = .ok (.goto (-83), 3) := by decide +kernel
theorem d_Ac_fillRows_141 : decode b_Ac_fillRows 141 = .ok (.aload_n 0, 1) := by decide +kernel
theorem d_Ac_fillRows_142 : decode b_Ac_fillRows 142 = .ok (.iconst 1, 1) := by decide +kernel
theorem d_Ac_fillRows_143 : decode b_Ac_fillRows 143 = .ok (.putfield 28, 3) := by decide +kernel
theorem d_Ac_fillRows_146 : decode b_Ac_fillRows 146 = .ok (.return_, 1) := by decide +kernel
set_option maxRecDepth 100000 in
set_option maxHeartbeats 4000000 in
theorem S_Ac_fillRows_0 {G : Gc} {M : Mc} {Q : State → Prop} {K : Option Value → Hp → Prop} (hG : gok G) (hM : mok G M r_Ac_fillRows Q K) (v0 : Nat) (v1 : Nat) (h : Hp) (F : X G M Q 2 [(0, .ref v0), (1, .ref v1), (2, .int 0)] [] h) : X G M Q 0 [(0, .ref v0), (1, .ref v1)] [] h := by
  refine x_iconst (v := 0) hM d_Ac_fillRows_0 (by decide) ?_
  refine x_istore_n (lv2 := [(2, .int 0), (0, .ref v0), (1, .ref v1)]) hM d_Ac_fillRows_1 rfl (Nat.le_of_ble_eq_true rfl) rfl ?_
  refine x_sub [1, 2, 0] rfl ?_
  exact F
set_option maxRecDepth 100000 in
set_option maxHeartbeats 4000000 in
theorem S_Ac_fillRows_2 {G : Gc} {M : Mc} {Q : State → Prop} {K : Option Value → Hp → Prop} (hG : gok G) (hM : mok G M r_Ac_fillRows Q K) (v0 : Nat) (v1 : Nat) (v2 : Int32) (h : Hp) (F : kT h v0 = 3 ∧ (((kI h v0 2) ≤ v2 → X G M Q 55 [(0, .ref v0), (1, .ref v1), (2, .int 0)] [] h) ∧ (¬ (kI h v0 2) ≤ v2 → (kT h v0 = 3 ∧ kR h v0 1 = some (rf h v0 1) ∧ (kT h (rf h v0 1) = 54 ∧ vp_in v2 (kN h (rf h v0 1)) ∧ kR h (rf h v0 1) (Int32.toNatClampNeg v2) = some (rf h (rf h v0 1) (Int32.toNatClampNeg v2)) ∧ (kT h (rf h (rf h v0 1) (Int32.toNatClampNeg v2)) = 4 ∧ kR h (rf h (rf h v0 1) (Int32.toNatClampNeg v2)) 1 = some (rf h (rf h (rf h v0 1) (Int32.toNatClampNeg v2)) 1) ∧ (kT h v1 = 2 ∧ (sem G r_WP_rowFor [.ref (rf h (rf h (rf h v0 1) (Int32.toNatClampNeg v2)) 1), .int (kI h v1 1)] h (fun u2 h1 => ∃ x3 : Nat, u2 = some (.ref x3) ∧ (kT h1 (rf h (rf h v0 1) (Int32.toNatClampNeg v2)) = 4 ∧ (∀ h4 : Hp, h4 = wR h1 (rf h (rf h v0 1) (Int32.toNatClampNeg v2)) 1 (some x3) → (kT h4 (rf h (rf h v0 1) (Int32.toNatClampNeg v2)) = 4 ∧ kR h4 (rf h (rf h v0 1) (Int32.toNatClampNeg v2)) 2 = some (rf h4 (rf h (rf h v0 1) (Int32.toNatClampNeg v2)) 2) ∧ (kT h4 v1 = 2 ∧ (sem G r_WP_rowFor [.ref (rf h4 (rf h (rf h v0 1) (Int32.toNatClampNeg v2)) 2), .int (kI h4 v1 1)] h4 (fun u6 h5 => ∃ x7 : Nat, u6 = some (.ref x7) ∧ (kT h5 (rf h (rf h v0 1) (Int32.toNatClampNeg v2)) = 4 ∧ (∀ h8 : Hp, h8 = wR h5 (rf h (rf h v0 1) (Int32.toNatClampNeg v2)) 2 (some x7) → X G M Q 2 [(0, .ref v0), (1, .ref v1), (2, .int (v2 + 1))] [] h8))))))))))))))))) : X G M Q 2 [(0, .ref v0), (1, .ref v1), (2, .int v2)] [] h := by
  refine x_iload_n hM d_Ac_fillRows_2 rfl 2 rfl ?_
  refine x_aload_n hM d_Ac_fillRows_3 rfl 0 rfl ?_
  obtain ⟨c23, F⟩ := F
  refine x_geti hG hM ck_Ac 2 (Nat.le_of_ble_eq_true rfl) rfl rfl w_104 rfl d_Ac_fillRows_4 c23 ?_
  refine x_icmp_ge (tgt := 53) hM d_Ac_fillRows_7 (by decide) (fun q22 => ?_) (fun q22 => ?_)
  · replace F := F.1 q22
    refine x_iconst (v := 0) hM d_Ac_fillRows_53 (by decide) ?_
    refine x_istore_n (lv2 := [(2, .int 0), (0, .ref v0), (1, .ref v1)]) hM d_Ac_fillRows_54 rfl (Nat.le_of_ble_eq_true rfl) rfl ?_
    refine x_sub [1, 2, 0] rfl ?_
    exact F
  · replace F := F.2 q22
    refine x_aload_n hM d_Ac_fillRows_10 rfl 0 rfl ?_
    obtain ⟨c20, F⟩ := F
    obtain ⟨c21, F⟩ := F
    refine x_getr hG hM ck_Ac 1 (Nat.le_of_ble_eq_true rfl) rfl rfl w_96 rfl d_Ac_fillRows_11 c20 c21 ?_
    refine x_iload_n hM d_Ac_fillRows_14 rfl 2 rfl ?_
    obtain ⟨c17, F⟩ := F
    obtain ⟨c18, F⟩ := F
    obtain ⟨c19, F⟩ := F
    refine x_aaload hG hM 54 rfl (Nat.le_of_ble_eq_true rfl) d_Ac_fillRows_15 c17 c18 c19 ?_
    refine x_astore_n (lv2 := [(3, .ref (rf h (rf h v0 1) (Int32.toNatClampNeg v2))), (0, .ref v0), (1, .ref v1), (2, .int v2)]) hM d_Ac_fillRows_16 rfl (Nat.le_of_ble_eq_true rfl) rfl ?_
    refine x_aload_n hM d_Ac_fillRows_17 rfl 0 rfl ?_
    refine x_aload_n hM d_Ac_fillRows_18 rfl 0 rfl ?_
    obtain ⟨c15, F⟩ := F
    obtain ⟨c16, F⟩ := F
    refine x_getr hG hM ck_Ou 1 (Nat.le_of_ble_eq_true rfl) rfl rfl w_79 rfl d_Ac_fillRows_19 c15 c16 ?_
    refine x_aload_n hM d_Ac_fillRows_22 rfl 2 rfl ?_
    obtain ⟨c14, F⟩ := F
    refine x_geti hG hM ck_Wo 1 (Nat.le_of_ble_eq_true rfl) rfl rfl w_131 rfl d_Ac_fillRows_23 c14 ?_
    refine x_callSN hG hM (r' := r_WP_rowFor) [.ref (rf h (rf h (rf h v0 1) (Int32.toNatClampNeg v2)) 1), .int (kI h v1 1)] rfl yk_WP_rowFor ⟨Nat.le_of_ble_eq_true rfl, Nat.le_of_ble_eq_true rfl⟩ w_596 w_586 rfl rfl (Nat.le_of_ble_eq_true rfl) d_Ac_fillRows_26 (sem_mono F ?_)
    intro u2 h1 F
    obtain ⟨x3, rfl, F⟩ := F
    obtain ⟨c13, F⟩ := F
    obtain ⟨h4, eh4⟩ : ∃ z : Hp, z = wR h1 (rf h (rf h v0 1) (Int32.toNatClampNeg v2)) 1 (some x3) := ⟨_, rfl⟩
    replace F := F h4 eh4
    refine x_putr hG hM ck_Ou 1 (Nat.le_of_ble_eq_true rfl) (Or.inr ⟨_, rfl⟩) rfl w_79 rfl d_Ac_fillRows_29 (Or.inl rfl) c13 ?_
    rw [← eh4]
    clear eh4
    refine x_aload_n hM d_Ac_fillRows_32 rfl 0 rfl ?_
    refine x_aload_n hM d_Ac_fillRows_33 rfl 0 rfl ?_
    obtain ⟨c11, F⟩ := F
    obtain ⟨c12, F⟩ := F
    refine x_getr hG hM ck_Ou 2 (Nat.le_of_ble_eq_true rfl) rfl rfl w_85 rfl d_Ac_fillRows_34 c11 c12 ?_
    refine x_aload_n hM d_Ac_fillRows_37 rfl 2 rfl ?_
    obtain ⟨c10, F⟩ := F
    refine x_geti hG hM ck_Wo 1 (Nat.le_of_ble_eq_true rfl) rfl rfl w_131 rfl d_Ac_fillRows_38 c10 ?_
    refine x_callSN hG hM (r' := r_WP_rowFor) [.ref (rf h4 (rf h (rf h v0 1) (Int32.toNatClampNeg v2)) 2), .int (kI h4 v1 1)] rfl yk_WP_rowFor ⟨Nat.le_of_ble_eq_true rfl, Nat.le_of_ble_eq_true rfl⟩ w_596 w_586 rfl rfl (Nat.le_of_ble_eq_true rfl) d_Ac_fillRows_41 (sem_mono F ?_)
    intro u6 h5 F
    obtain ⟨x7, rfl, F⟩ := F
    obtain ⟨c9, F⟩ := F
    obtain ⟨h8, eh8⟩ : ∃ z : Hp, z = wR h5 (rf h (rf h v0 1) (Int32.toNatClampNeg v2)) 2 (some x7) := ⟨_, rfl⟩
    replace F := F h8 eh8
    refine x_putr hG hM ck_Ou 2 (Nat.le_of_ble_eq_true rfl) (Or.inr ⟨_, rfl⟩) rfl w_85 rfl d_Ac_fillRows_44 (Or.inl rfl) c9 ?_
    rw [← eh8]
    clear eh8
    refine x_iinc (v := (v2 + 1)) (lv2 := [(2, .int (v2 + 1)), (3, .ref (rf h (rf h v0 1) (Int32.toNatClampNeg v2))), (0, .ref v0), (1, .ref v1)]) hM d_Ac_fillRows_47 (j := 3) rfl rfl (Nat.le_of_ble_eq_true rfl) rfl ?_
    refine x_goto (tgt := 2) hM d_Ac_fillRows_50 (by decide) ?_
    refine x_sub [2, 3, 0] rfl ?_
    exact F
set_option maxRecDepth 100000 in
set_option maxHeartbeats 4000000 in
theorem S_Ac_fillRows_55 {G : Gc} {M : Mc} {Q : State → Prop} {K : Option Value → Hp → Prop} (hG : gok G) (hM : mok G M r_Ac_fillRows Q K) (v0 : Nat) (v1 : Nat) (v2 : Int32) (h : Hp) (F : kT h v1 = 2 ∧ (((kI h v1 1) ≤ v2 → (kT h v0 = 3 ∧ (∀ h1 : Hp, h1 = wI h v0 3 1 → K none h1))) ∧ (¬ (kI h v1 1) ≤ v2 → (kT h v1 = 2 ∧ kR h v1 6 = some (rf h v1 6) ∧ (kT h (rf h v1 6) = 50 ∧ vp_in v2 (kN h (rf h v1 6)) ∧ (kT h v0 = 3 ∧ kR h v0 0 = some (rf h v0 0) ∧ (kT h (rf h v0 0) = 5 ∧ sem G r_Cl_hold [.ref (rf h v0 0), .int (kI h (rf h v1 6) (Int32.toNatClampNeg v2))] h (fun u4 h3 => ∃ x5 : Int32, u4 = some (.int x5) ∧ X G M Q 83 [(0, .ref v0), (1, .ref v1), (2, .int v2), (3, .int (kI h (rf h v1 6) (Int32.toNatClampNeg v2))), (4, .int x5), (5, .int 0)] [] h3)))))))) : X G M Q 55 [(0, .ref v0), (1, .ref v1), (2, .int v2)] [] h := by
  refine x_iload_n hM d_Ac_fillRows_55 rfl 2 rfl ?_
  refine x_aload_n hM d_Ac_fillRows_56 rfl 1 rfl ?_
  obtain ⟨c14, F⟩ := F
  refine x_geti hG hM ck_Wo 1 (Nat.le_of_ble_eq_true rfl) rfl rfl w_131 rfl d_Ac_fillRows_57 c14 ?_
  refine x_icmp_ge (tgt := 141) hM d_Ac_fillRows_60 (by decide) (fun q13 => ?_) (fun q13 => ?_)
  · replace F := F.1 q13
    refine x_aload_n hM d_Ac_fillRows_141 rfl 0 rfl ?_
    refine x_iconst (v := 1) hM d_Ac_fillRows_142 (by decide) ?_
    obtain ⟨c2, F⟩ := F
    obtain ⟨h1, eh1⟩ : ∃ z : Hp, z = wI h v0 3 1 := ⟨_, rfl⟩
    replace F := F h1 eh1
    refine x_putz hG hM ck_Ac 3 (Nat.le_of_ble_eq_true rfl) rfl rfl w_111 rfl d_Ac_fillRows_143 (Or.inl rfl) c2 (Or.inr rfl) ?_
    rw [← eh1]
    clear eh1
    exact x_return hM d_Ac_fillRows_146 rfl F
  · replace F := F.2 q13
    refine x_aload_n hM d_Ac_fillRows_63 rfl 1 rfl ?_
    obtain ⟨c11, F⟩ := F
    obtain ⟨c12, F⟩ := F
    refine x_getr hG hM ck_Wo 6 (Nat.le_of_ble_eq_true rfl) rfl rfl w_154 rfl d_Ac_fillRows_64 c11 c12 ?_
    refine x_iload_n hM d_Ac_fillRows_67 rfl 2 rfl ?_
    obtain ⟨c9, F⟩ := F
    obtain ⟨c10, F⟩ := F
    refine x_iaload hG hM d_Ac_fillRows_68 c9 c10 ?_
    refine x_istore_n (lv2 := [(3, .int (kI h (rf h v1 6) (Int32.toNatClampNeg v2))), (0, .ref v0), (1, .ref v1), (2, .int v2)]) hM d_Ac_fillRows_69 rfl (Nat.le_of_ble_eq_true rfl) rfl ?_
    refine x_aload_n hM d_Ac_fillRows_70 rfl 1 rfl ?_
    obtain ⟨c7, F⟩ := F
    obtain ⟨c8, F⟩ := F
    refine x_getr hG hM ck_Ac 0 (Nat.le_of_ble_eq_true rfl) rfl rfl w_94 rfl d_Ac_fillRows_71 c7 c8 ?_
    refine x_iload_n hM d_Ac_fillRows_74 rfl 0 rfl ?_
    obtain ⟨c6, F⟩ := F
    refine x_callV hG hM (r' := r_Cl_hold) (ci := 4) [.int (kI h (rf h v1 6) (Int32.toNatClampNeg v2))] rfl rfl (Nat.le_of_ble_eq_true rfl) yk_Cl_hold ⟨Nat.le_of_ble_eq_true rfl, Nat.le_of_ble_eq_true rfl⟩ w_597 w_554 w_555 rfl rfl (Nat.le_of_ble_eq_true rfl) d_Ac_fillRows_75 c6 (sem_mono F ?_)
    intro u4 h3 F
    obtain ⟨x5, rfl, F⟩ := F
    refine x_istore (lv2 := [(4, .int x5), (3, .int (kI h (rf h v1 6) (Int32.toNatClampNeg v2))), (0, .ref v0), (1, .ref v1), (2, .int v2)]) hM d_Ac_fillRows_78 (Nat.le_of_ble_eq_true rfl) rfl ?_
    refine x_iconst (v := 0) hM d_Ac_fillRows_80 (by decide) ?_
    refine x_istore (lv2 := [(5, .int 0), (4, .int x5), (3, .int (kI h (rf h v1 6) (Int32.toNatClampNeg v2))), (0, .ref v0), (1, .ref v1), (2, .int v2)]) hM d_Ac_fillRows_81 (Nat.le_of_ble_eq_true rfl) rfl ?_
    refine x_sub [3, 4, 5, 2, 1, 0] rfl ?_
    exact F
set_option maxRecDepth 100000 in
set_option maxHeartbeats 4000000 in
theorem S_Ac_fillRows_83 {G : Gc} {M : Mc} {Q : State → Prop} {K : Option Value → Hp → Prop} (hG : gok G) (hM : mok G M r_Ac_fillRows Q K) (v0 : Nat) (v1 : Nat) (v2 : Int32) (v3 : Int32) (v4 : Int32) (v5 : Int32) (h : Hp) (F : kT h v0 = 3 ∧ (((kI h v0 2) ≤ v5 → X G M Q 55 [(0, .ref v0), (1, .ref v1), (2, .int (v2 + 1))] [] h) ∧ (¬ (kI h v0 2) ≤ v5 → (kT h v0 = 3 ∧ kR h v0 1 = some (rf h v0 1) ∧ (kT h (rf h v0 1) = 54 ∧ vp_in v5 (kN h (rf h v0 1)) ∧ kR h (rf h v0 1) (Int32.toNatClampNeg v5) = some (rf h (rf h v0 1) (Int32.toNatClampNeg v5)) ∧ (kT h (rf h (rf h v0 1) (Int32.toNatClampNeg v5)) = 4 ∧ kR h (rf h (rf h v0 1) (Int32.toNatClampNeg v5)) 1 = some (rf h (rf h (rf h v0 1) (Int32.toNatClampNeg v5)) 1) ∧ ((v4 = 0 → (kT h (rf h (rf h (rf h v0 1) (Int32.toNatClampNeg v5)) 1) = 50 ∧ vp_in v2 (kN h (rf h (rf h (rf h v0 1) (Int32.toNatClampNeg v5)) 1)) ∧ (∀ h1 : Hp, h1 = wI h (rf h (rf h (rf h v0 1) (Int32.toNatClampNeg v5)) 1) (Int32.toNatClampNeg v2) (-1) → X G M Q 83 [(0, .ref v0), (1, .ref v1), (2, .int v2), (3, .int v3), (4, .int v4), (5, .int (v5 + 1))] [] h1))) ∧ (¬ v4 = 0 → (kT h v0 = 3 ∧ kR h v0 1 = some (rf h v0 1) ∧ (kT h (rf h v0 1) = 54 ∧ vp_in v5 (kN h (rf h v0 1)) ∧ kR h (rf h v0 1) (Int32.toNatClampNeg v5) = some (rf h (rf h v0 1) (Int32.toNatClampNeg v5)) ∧ (kT h (rf h (rf h v0 1) (Int32.toNatClampNeg v5)) = 4 ∧ kR h (rf h (rf h v0 1) (Int32.toNatClampNeg v5)) 0 = some (rf h (rf h (rf h v0 1) (Int32.toNatClampNeg v5)) 0) ∧ (kT h v1 = 2 ∧ sem G r_Wo_after [.ref v1, .ref (rf h (rf h (rf h v0 1) (Int32.toNatClampNeg v5)) 0), .int v2, .int v3] h (fun u5 h4 => ∃ x6 : Int32, u5 = some (.int x6) ∧ (kT h4 (rf h (rf h (rf h v0 1) (Int32.toNatClampNeg v5)) 1) = 50 ∧ vp_in v2 (kN h4 (rf h (rf h (rf h v0 1) (Int32.toNatClampNeg v5)) 1)) ∧ (∀ h7 : Hp, h7 = wI h4 (rf h (rf h (rf h v0 1) (Int32.toNatClampNeg v5)) 1) (Int32.toNatClampNeg v2) x6 → X G M Q 83 [(0, .ref v0), (1, .ref v1), (2, .int v2), (3, .int v3), (4, .int v4), (5, .int (v5 + 1))] [] h7))))))))))))))) : X G M Q 83 [(0, .ref v0), (1, .ref v1), (2, .int v2), (3, .int v3), (4, .int v4), (5, .int v5)] [] h := by
  refine x_iload hM d_Ac_fillRows_83 5 rfl ?_
  refine x_aload_n hM d_Ac_fillRows_85 rfl 0 rfl ?_
  obtain ⟨c27, F⟩ := F
  refine x_geti hG hM ck_Ac 2 (Nat.le_of_ble_eq_true rfl) rfl rfl w_104 rfl d_Ac_fillRows_86 c27 ?_
  refine x_icmp_ge (tgt := 135) hM d_Ac_fillRows_89 (by decide) (fun q26 => ?_) (fun q26 => ?_)
  · replace F := F.1 q26
    refine x_iinc (v := (v2 + 1)) (lv2 := [(2, .int (v2 + 1)), (0, .ref v0), (1, .ref v1), (3, .int v3), (4, .int v4), (5, .int v5)]) hM d_Ac_fillRows_135 (j := 2) rfl rfl (Nat.le_of_ble_eq_true rfl) rfl ?_
    refine x_goto (tgt := 55) hM d_Ac_fillRows_138 (by decide) ?_
    refine x_sub [1, 2, 0] rfl ?_
    exact F
  · replace F := F.2 q26
    refine x_aload_n hM d_Ac_fillRows_92 rfl 0 rfl ?_
    obtain ⟨c24, F⟩ := F
    obtain ⟨c25, F⟩ := F
    refine x_getr hG hM ck_Ac 1 (Nat.le_of_ble_eq_true rfl) rfl rfl w_96 rfl d_Ac_fillRows_93 c24 c25 ?_
    refine x_iload hM d_Ac_fillRows_96 5 rfl ?_
    obtain ⟨c21, F⟩ := F
    obtain ⟨c22, F⟩ := F
    obtain ⟨c23, F⟩ := F
    refine x_aaload hG hM 54 rfl (Nat.le_of_ble_eq_true rfl) d_Ac_fillRows_98 c21 c22 c23 ?_
    obtain ⟨c19, F⟩ := F
    obtain ⟨c20, F⟩ := F
    refine x_getr hG hM ck_Ou 1 (Nat.le_of_ble_eq_true rfl) rfl rfl w_79 rfl d_Ac_fillRows_99 c19 c20 ?_
    refine x_iload_n hM d_Ac_fillRows_102 rfl 2 rfl ?_
    refine x_iload hM d_Ac_fillRows_103 4 rfl ?_
    refine x_if_eq (tgt := 127) hM d_Ac_fillRows_105 (by decide) (fun q18 => ?_) (fun q18 => ?_)
    · replace F := F.1 q18
      refine x_iconst (v := (-1)) hM d_Ac_fillRows_127 (by decide) ?_
      obtain ⟨c2, F⟩ := F
      obtain ⟨c3, F⟩ := F
      obtain ⟨h1, eh1⟩ : ∃ z : Hp, z = wI h (rf h (rf h (rf h v0 1) (Int32.toNatClampNeg v5)) 1) (Int32.toNatClampNeg v2) (-1) := ⟨_, rfl⟩
      replace F := F h1 eh1
      refine x_iastore hG hM d_Ac_fillRows_128 c2 c3 ?_
      rw [← eh1]
      clear eh1
      refine x_iinc (v := (v5 + 1)) (lv2 := [(5, .int (v5 + 1)), (0, .ref v0), (1, .ref v1), (2, .int v2), (3, .int v3), (4, .int v4)]) hM d_Ac_fillRows_129 (j := 5) rfl rfl (Nat.le_of_ble_eq_true rfl) rfl ?_
      refine x_goto (tgt := 83) hM d_Ac_fillRows_132 (by decide) ?_
      refine x_sub [1, 2, 3, 4, 5, 0] rfl ?_
      exact F
    · replace F := F.2 q18
      refine x_aload_n hM d_Ac_fillRows_108 rfl 1 rfl ?_
      refine x_aload_n hM d_Ac_fillRows_109 rfl 0 rfl ?_
      obtain ⟨c16, F⟩ := F
      obtain ⟨c17, F⟩ := F
      refine x_getr hG hM ck_Ac 1 (Nat.le_of_ble_eq_true rfl) rfl rfl w_96 rfl d_Ac_fillRows_110 c16 c17 ?_
      refine x_iload hM d_Ac_fillRows_113 5 rfl ?_
      obtain ⟨c13, F⟩ := F
      obtain ⟨c14, F⟩ := F
      obtain ⟨c15, F⟩ := F
      refine x_aaload hG hM 54 rfl (Nat.le_of_ble_eq_true rfl) d_Ac_fillRows_115 c13 c14 c15 ?_
      obtain ⟨c11, F⟩ := F
      obtain ⟨c12, F⟩ := F
      refine x_getr hG hM ck_Ou 0 (Nat.le_of_ble_eq_true rfl) rfl rfl w_74 rfl d_Ac_fillRows_116 c11 c12 ?_
      refine x_iload_n hM d_Ac_fillRows_119 rfl 2 rfl ?_
      refine x_iload_n hM d_Ac_fillRows_120 rfl 3 rfl ?_
      obtain ⟨c10, F⟩ := F
      refine x_callV hG hM (r' := r_Wo_after) (ci := 1) [.ref (rf h (rf h (rf h v0 1) (Int32.toNatClampNeg v5)) 0), .int v2, .int v3] rfl rfl (Nat.le_of_ble_eq_true rfl) yk_Wo_after ⟨Nat.le_of_ble_eq_true rfl, Nat.le_of_ble_eq_true rfl⟩ w_598 w_561 w_562 rfl rfl (Nat.le_of_ble_eq_true rfl) d_Ac_fillRows_121 c10 (sem_mono F ?_)
      intro u5 h4 F
      obtain ⟨x6, rfl, F⟩ := F
      refine x_goto (tgt := 128) hM d_Ac_fillRows_124 (by decide) ?_
      obtain ⟨c8, F⟩ := F
      obtain ⟨c9, F⟩ := F
      obtain ⟨h7, eh7⟩ : ∃ z : Hp, z = wI h4 (rf h (rf h (rf h v0 1) (Int32.toNatClampNeg v5)) 1) (Int32.toNatClampNeg v2) x6 := ⟨_, rfl⟩
      replace F := F h7 eh7
      refine x_iastore hG hM d_Ac_fillRows_128 c8 c9 ?_
      rw [← eh7]
      clear eh7
      refine x_iinc (v := (v5 + 1)) (lv2 := [(5, .int (v5 + 1)), (0, .ref v0), (1, .ref v1), (2, .int v2), (3, .int v3), (4, .int v4)]) hM d_Ac_fillRows_129 (j := 5) rfl rfl (Nat.le_of_ble_eq_true rfl) rfl ?_
      refine x_goto (tgt := 83) hM d_Ac_fillRows_132 (by decide) ?_
      refine x_sub [1, 2, 3, 4, 5, 0] rfl ?_
      exact F
theorem d_Ac_canBeDone_0 : decode b_Ac_canBeDone 0 = .ok (.aload_n 0, 1) := by decide +kernel
theorem d_Ac_canBeDone_1 : decode b_Ac_canBeDone 1 = .ok (.getfield 20, 3) := by decide +kernel
theorem d_Ac_canBeDone_4 : decode b_Ac_canBeDone 4 = .ok (.iconst 0, 1) := by decide +kernel
theorem d_Ac_canBeDone_5 : decode b_Ac_canBeDone 5 = .ok (.aaload, 1) := by decide +kernel
theorem d_Ac_canBeDone_6 : decode b_Ac_canBeDone 6 = .ok (.getfield 39, 3) := by decide +kernel
theorem d_Ac_canBeDone_9 : decode b_Ac_canBeDone 9 = .ok (.iload_n 1, 1) := by decide +kernel
theorem d_Ac_canBeDone_10 : decode b_Ac_canBeDone 10 = .ok (.iaload, 1) := by decide +kernel
theorem d_Ac_canBeDone_11 : decode b_Ac_canBeDone 11 = .ok (.iconst (-1), 1) := by decide +kernel
theorem d_Ac_canBeDone_12 : decode b_Ac_canBeDone 12 = .ok (.if_icmp .eq 7, 3) := by decide +kernel
theorem d_Ac_canBeDone_15 : decode b_Ac_canBeDone 15 = .ok (.iconst 1, 1) := by decide +kernel
theorem d_Ac_canBeDone_16 : decode b_Ac_canBeDone 16 = .ok (.goto 4, 3) := by decide +kernel
theorem d_Ac_canBeDone_19 : decode b_Ac_canBeDone 19 = .ok (.iconst 0, 1) := by decide +kernel
theorem d_Ac_canBeDone_20 : decode b_Ac_canBeDone 20 = .ok (.ireturn, 1) := by decide +kernel
set_option maxRecDepth 100000 in
set_option maxHeartbeats 4000000 in
theorem S_Ac_canBeDone_0 {G : Gc} {M : Mc} {Q : State → Prop} {K : Option Value → Hp → Prop} (hG : gok G) (hM : mok G M r_Ac_canBeDone Q K) (v0 : Nat) (v1 : Int32) (h : Hp) (F : kT h v0 = 3 ∧ kR h v0 1 = some (rf h v0 1) ∧ (kT h (rf h v0 1) = 54 ∧ vp_in 0 (kN h (rf h v0 1)) ∧ kR h (rf h v0 1) (Int32.toNatClampNeg 0) = some (rf h (rf h v0 1) (Int32.toNatClampNeg 0)) ∧ (kT h (rf h (rf h v0 1) (Int32.toNatClampNeg 0)) = 4 ∧ kR h (rf h (rf h v0 1) (Int32.toNatClampNeg 0)) 1 = some (rf h (rf h (rf h v0 1) (Int32.toNatClampNeg 0)) 1) ∧ (kT h (rf h (rf h (rf h v0 1) (Int32.toNatClampNeg 0)) 1) = 50 ∧ vp_in v1 (kN h (rf h (rf h (rf h v0 1) (Int32.toNatClampNeg 0)) 1)) ∧ (∀ z1 : Int32, z1 = (if (kI h (rf h (rf h (rf h v0 1) (Int32.toNatClampNeg 0)) 1) (Int32.toNatClampNeg v1)) = (-1) then 0 else 1) → (nb z1 ∧ K (some (.int z1)) h)))))) : X G M Q 0 [(0, .ref v0), (1, .int v1)] [] h := by
  refine x_aload_n hM d_Ac_canBeDone_0 rfl 0 rfl ?_
  obtain ⟨c10, F⟩ := F
  obtain ⟨c11, F⟩ := F
  refine x_getr hG hM ck_Ac 1 (Nat.le_of_ble_eq_true rfl) rfl rfl w_96 rfl d_Ac_canBeDone_1 c10 c11 ?_
  refine x_iconst (v := 0) hM d_Ac_canBeDone_4 (by decide) ?_
  obtain ⟨c7, F⟩ := F
  obtain ⟨c8, F⟩ := F
  obtain ⟨c9, F⟩ := F
  refine x_aaload hG hM 54 rfl (Nat.le_of_ble_eq_true rfl) d_Ac_canBeDone_5 c7 c8 c9 ?_
  obtain ⟨c5, F⟩ := F
  obtain ⟨c6, F⟩ := F
  refine x_getr hG hM ck_Ou 1 (Nat.le_of_ble_eq_true rfl) rfl rfl w_79 rfl d_Ac_canBeDone_6 c5 c6 ?_
  refine x_iload_n hM d_Ac_canBeDone_9 rfl 1 rfl ?_
  obtain ⟨c3, F⟩ := F
  obtain ⟨c4, F⟩ := F
  refine x_iaload hG hM d_Ac_canBeDone_10 c3 c4 ?_
  refine x_iconst (v := (-1)) hM d_Ac_canBeDone_11 (by decide) ?_
  have JJ : ∀ (z1 : Int32) (ez1 : z1 = (if (kI h (rf h (rf h (rf h v0 1) (Int32.toNatClampNeg 0)) 1) (Int32.toNatClampNeg v1)) = (-1) then 0 else 1)), X G M Q 20 [] [.int z1] h := by
    intro z1 ez1
    replace F := F _ ez1
    exact x_zreturn hM d_Ac_canBeDone_20 rfl F.1 F.2
  refine x_icmp_eq (tgt := 19) hM d_Ac_canBeDone_12 (by decide) (fun q2 => ?_) (fun q2 => ?_)
  · refine x_iconst (v := 0) hM d_Ac_canBeDone_19 (by decide) ?_
    refine x_sub [] rfl ?_
    exact JJ _ (Eq.symm (if_pos q2))
  · refine x_iconst (v := 1) hM d_Ac_canBeDone_15 (by decide) ?_
    refine x_goto (tgt := 20) hM d_Ac_canBeDone_16 (by decide) ?_
    refine x_sub [] rfl ?_
    exact JJ _ (Eq.symm (if_neg q2))
