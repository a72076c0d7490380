theorem d_Se_init_0 : decode b_Se_init 0 = .ok (.aload_n 0, 1) := by decide +kernel
theorem d_Se_init_1 : decode b_Se_init 1 = .ok (.invokespecial 3, 3) := by decide +kernel
theorem d_Se_init_4 : decode b_Se_init 4 = .ok (.aload_n 0, 1) := by decide +kernel
theorem d_Se_init_5 : decode b_Se_init 5 = .ok (.iconst 0, 1) := by decide +kernel
theorem d_Se_init_6 : decode b_Se_init 6 = .ok (.newarray .boolean, 2) := by decide +kernel
theorem d_Se_init_8 : decode b_Se_init 8 = .ok (.putfield 9, 3) := by decide +kernel
theorem d_Se_init_11 : decode b_Se_init 11 = .ok (.aload_n 0, 1) := by decide +kernel
theorem d_Se_init_12 : decode b_Se_init 12 = .ok (.iconst 0, 1) := by decide +kernel
theorem d_Se_init_13 : decode b_Se_init 13 = .ok (.newarray .int, 2) := by decide +kernel
theorem d_Se_init_15 : decode b_Se_init 15 = .ok (.putfield 15, 3) := by decide +kernel
theorem d_Se_init_18 : decode b_Se_init 18 = .ok (.aload_n 0, 1) := by decide +kernel
theorem d_Se_init_19 : decode b_Se_init 19 = .ok (.iconst 0, 1) := by decide +kernel
theorem d_Se_init_20 : decode b_Se_init 20 = .ok (.putfield 19, 3) := by decide +kernel
theorem d_Se_init_23 : decode b_Se_init 23 = .ok (.aload_n 0, 1) := by decide +kernel
theorem d_Se_init_24 : decode b_Se_init 24 = .ok (.iconst (-1), 1) := by decide +kernel
theorem d_Se_init_25 : decode b_Se_init 25 = .ok (.putfield 23, 3) := by decide +kernel
theorem d_Se_init_28 : decode b_Se_init 28 = .ok (.aload_n 0, 1) := by decide +kernel
theorem d_Se_init_29 : decode b_Se_init 29 = .ok (.iconst (-1), 1) := by decide +kernel
theorem d_Se_init_30 : decode b_Se_init 30 = .ok (.putfield 26, 3) := by decide +kernel
theorem d_Se_init_33 : decode b_Se_init 33 = .ok (.return_, 1) := by decide +kernel
set_option maxRecDepth 100000 in
set_option maxHeartbeats 4000000 in
theorem S_Se_init_0 {G : Gc} {M : Mc} {Q : State → Prop} {K : Option Value → Hp → Prop} (hG : gok G) (hM : mok G M r_Se_init Q K) (v0 : Nat) (h : Hp) (F : kX h + 1 ≤ gB G + capC ∧ kS h + 0 ≤ capS ∧ (∀ h1 : Hp, h1 = wA h 51 0 0 → (kT h1 v0 = 11 ∧ (∀ h2 : Hp, h2 = wR h1 v0 0 (some (kX h)) → (kX h2 + 1 ≤ gB G + capC ∧ kS h2 + 0 ≤ capS ∧ (∀ h3 : Hp, h3 = wA h2 50 0 0 → (kT h3 v0 = 11 ∧ (∀ h4 : Hp, h4 = wR h3 v0 1 (some (kX h2)) → (kT h4 v0 = 11 ∧ (∀ h5 : Hp, h5 = wI h4 v0 2 0 → (kT h5 v0 = 11 ∧ (∀ h6 : Hp, h6 = wI h5 v0 3 (-1) → (kT h6 v0 = 11 ∧ (∀ h7 : Hp, h7 = wI h6 v0 4 (-1) → K none h7)))))))))))))) : X G M Q 0 [(0, .ref v0)] [] h := by
  refine x_aload_n hM d_Se_init_0 rfl 0 rfl ?_
  refine x_objInit hG hM rfl w_385 w_22 w_objcode d_Se_init_1 (Nat.le_of_ble_eq_true rfl) (Nat.le_of_ble_eq_true rfl) (Nat.le_of_ble_eq_true rfl) ?_
  refine x_aload_n hM d_Se_init_4 rfl 0 rfl ?_
  refine x_iconst (v := 0) hM d_Se_init_5 (by decide) ?_
  obtain ⟨c15, F⟩ := F
  obtain ⟨c16, F⟩ := F
  obtain ⟨h1, eh1⟩ : ∃ z : Hp, z = wA h 51 0 0 := ⟨_, rfl⟩
  replace F := F h1 eh1
  refine x_newZ hG hM (N := 0) w_226 d_Se_init_6 (by decide) rfl c15 c16 ?_
  rw [← eh1]
  clear eh1
  obtain ⟨c14, F⟩ := F
  obtain ⟨h2, eh2⟩ : ∃ z : Hp, z = wR h1 v0 0 (some (kX h)) := ⟨_, rfl⟩
  replace F := F h2 eh2
  refine x_putr hG hM ck_Se 0 (Nat.le_of_ble_eq_true rfl) (Or.inr ⟨_, rfl⟩) rfl w_386 rfl d_Se_init_8 (Or.inl rfl) c14 ?_
  rw [← eh2]
  clear eh2
  refine x_aload_n hM d_Se_init_11 rfl 0 rfl ?_
  refine x_iconst (v := 0) hM d_Se_init_12 (by decide) ?_
  obtain ⟨c12, F⟩ := F
  obtain ⟨c13, F⟩ := F
  obtain ⟨h3, eh3⟩ : ∃ z : Hp, z = wA h2 50 0 0 := ⟨_, rfl⟩
  replace F := F h3 eh3
  refine x_newI hG hM (N := 0) w_63 d_Se_init_13 (by decide) rfl c12 c13 ?_
  rw [← eh3]
  clear eh3
  obtain ⟨c11, F⟩ := F
  obtain ⟨h4, eh4⟩ : ∃ z : Hp, z = wR h3 v0 1 (some (kX h2)) := ⟨_, rfl⟩
  replace F := F h4 eh4
  refine x_putr hG hM ck_Se 1 (Nat.le_of_ble_eq_true rfl) (Or.inr ⟨_, rfl⟩) rfl w_387 rfl d_Se_init_15 (Or.inl rfl) c11 ?_
  rw [← eh4]
  clear eh4
  refine x_aload_n hM d_Se_init_18 rfl 0 rfl ?_
  refine x_iconst (v := 0) hM d_Se_init_19 (by decide) ?_
  obtain ⟨c10, F⟩ := F
  obtain ⟨h5, eh5⟩ : ∃ z : Hp, z = wI h4 v0 2 0 := ⟨_, rfl⟩
  replace F := F h5 eh5
  refine x_puti hG hM ck_Se 2 (Nat.le_of_ble_eq_true rfl) rfl rfl w_388 rfl d_Se_init_20 (Or.inl rfl) c10 ?_
  rw [← eh5]
  clear eh5
  refine x_aload_n hM d_Se_init_23 rfl 0 rfl ?_
  refine x_iconst (v := (-1)) hM d_Se_init_24 (by decide) ?_
  obtain ⟨c9, F⟩ := F
  obtain ⟨h6, eh6⟩ : ∃ z : Hp, z = wI h5 v0 3 (-1) := ⟨_, rfl⟩
  replace F := F h6 eh6
  refine x_puti hG hM ck_Se 3 (Nat.le_of_ble_eq_true rfl) rfl rfl w_389 rfl d_Se_init_25 (Or.inl rfl) c9 ?_
  rw [← eh6]
  clear eh6
  refine x_aload_n hM d_Se_init_28 rfl 0 rfl ?_
  refine x_iconst (v := (-1)) hM d_Se_init_29 (by decide) ?_
  obtain ⟨c8, F⟩ := F
  obtain ⟨h7, eh7⟩ : ∃ z : Hp, z = wI h6 v0 4 (-1) := ⟨_, rfl⟩
  replace F := F h7 eh7
  refine x_puti hG hM ck_Se 4 (Nat.le_of_ble_eq_true rfl) rfl rfl w_390 rfl d_Se_init_30 (Or.inl rfl) c8 ?_
  rw [← eh7]
  clear eh7
  exact x_return hM d_Se_init_33 rfl F
theorem d_Se_wins_0 : decode b_Se_wins 0 = .ok (.aload_n 0, 1) := by decide +kernel
theorem d_Se_wins_1 : decode b_Se_wins 1 = .ok (.iload 5, 2) := by decide +kernel
theorem d_Se_wins_3 : decode b_Se_wins 3 = .ok (.putfield 23, 3) := by decide +kernel
theorem d_Se_wins_6 : decode b_Se_wins 6 = .ok (.aload_n 0, 1) := by decide +kernel
theorem d_Se_wins_7 : decode b_Se_wins 7 = .ok (.iload 6, 2) := by decide +kernel
theorem d_Se_wins_9 : decode b_Se_wins 9 = .ok (.putfield 26, 3) := by decide +kernel
theorem d_Se_wins_12 : decode b_Se_wins 12 = .ok (.aload_n 0, 1) := by decide +kernel
theorem d_Se_wins_13 : decode b_Se_wins 13 = .ok (.aload_n 1, 1) := by decide +kernel
theorem d_Se_wins_14 : decode b_Se_wins 14 = .ok (.getfield 29, 3) := by decide +kernel
theorem d_Se_wins_17 : decode b_Se_wins 17 = .ok (.invokevirtual 34, 3) := by decide +kernel
theorem d_Se_wins_20 : decode b_Se_wins 20 = .ok (.aload_n 0, 1) := by decide +kernel
theorem d_Se_wins_21 : decode b_Se_wins 21 = .ok (.aload_n 1, 1) := by decide +kernel
theorem d_Se_wins_22 : decode b_Se_wins 22 = .ok (.aload_n 2, 1) := by decide +kernel
theorem d_Se_wins_23 : decode b_Se_wins 23 = .ok (.iload_n 3, 1) := by decide +kernel
theorem d_Se_wins_24 : decode b_Se_wins 24 = .ok (.invokevirtual 38, 3) := by decide +kernel
theorem d_Se_wins_27 : decode b_Se_wins 27 = .ok (.ifCond .eq 5, 3) := by decide +kernel
theorem d_Se_wins_30 : decode b_Se_wins 30 = .ok (.iconst 1, 1) := by decide +kernel
theorem d_Se_wins_31 : decode b_Se_wins 31 = .ok (.ireturn, 1) := by decide +kernel
theorem d_Se_wins_32 : decode b_Se_wins 32 = .ok (.iconst 0, 1) := by decide +kernel
theorem d_Se_wins_33 : decode b_Se_wins 33 = .ok (.istore 7, 2) := by decide +kernel
theorem d_Se_wins_35 : decode b_Se_wins 35 = .ok (.iload 7, 2) := by decide +kernel
theorem d_Se_wins_37 : decode b_Se_wins 37 = .ok (.aload_n 0, 1) := by decide +kernel
theorem d_Se_wins_38 : decode b_Se_wins 38 = .ok (.getfield 19, 3) := by decide +kernel
theorem d_Se_wins_41 : decode b_Se_wins 41 = .ok (.if_icmp .ge 119, 3) := by decide +kernel
theorem d_Se_wins_44 : decode b_Se_wins 44 = .ok (.iload 7, 2) := by decide +kernel
theorem d_Se_wins_46 : decode b_Se_wins 46 = .ok (.aload_n 1, 1) := by decide +kernel
theorem d_Se_wins_47 : decode b_Se_wins 47 = .ok (.getfield 29, 3) := by decide +kernel
theorem d_Se_wins_50 : decode b_Se_wins 50 = .ok (.if_icmp .ge 110, 3) := by decide +kernel
theorem d_Se_wins_53 : decode b_Se_wins 53 = .ok (.iconst 0, 1) := by decide +kernel
theorem d_Se_wins_54 : decode b_Se_wins 54 = .ok (.istore 8, 2) := by decide +kernel
theorem d_Se_wins_56 : decode b_Se_wins 56 = .ok (.iload 8, 2) := by decide +kernel
theorem d_Se_wins_58 : decode b_Se_wins 58 = .ok (.aload_n 1, 1) := by decide +kernel
theorem d_Se_wins_59 : decode b_Se_wins 59 = .ok (.getfield 42, 3) := by decide +kernel
theorem d_Se_wins_62 : decode b_Se_wins 62 = .ok (.if_icmp .ge 92, 3) := by decide +kernel
theorem d_Se_wins_65 : decode b_Se_wins 65 = .ok (.aload_n 1, 1) := by decide +kernel
theorem d_Se_wins_66 : decode b_Se_wins 66 = .ok (.getfield 45, 3) := by decide +kernel
theorem d_Se_wins_69 : decode b_Se_wins 69 = .ok (.iload 8, 2) := by decide +kernel
theorem d_Se_wins_71 : decode b_Se_wins 71 = .ok (.aaload, 1) := by decide +kernel
theorem d_Se_wins_72 : decode b_Se_wins 72 = .ok (.astore 9, 2) := by decide +kernel
theorem d_Se_wins_74 : decode b_Se_wins 74 = .ok (.iload 8, 2) := by decide +kernel
theorem d_Se_wins_76 : decode b_Se_wins 76 = .ok (.iload 4, 2) := by decide +kernel
theorem d_Se_wins_78 : decode b_Se_wins 78 = .ok (.if_icmp .eq 70, 3) := by decide +kernel
theorem d_Se_wins_81 : decode b_Se_wins 81 = .ok (.aload 9, 2) := by decide +kernel
theorem d_Se_wins_83 : decode b_Se_wins 83 = .ok (.aload_n 0, 1) := by decide +kernel
theorem d_Se_wins_84 : decode b_Se_wins 84 = .ok (.getfield 15, 3) := by decide +kernel
theorem d_Se_wins_87 : decode b_Se_wins 87 = .ok (.iload 7, 2) := by decide +kernel
theorem d_Se_wins_89 : decode b_Se_wins 89 = .ok (.iaload, 1) := by decide +kernel
theorem d_Se_wins_90 : decode b_Se_wins 90 = .ok (.invokevirtual 49, 3) := by decide +kernel
theorem d_Se_wins_93 : decode b_Se_wins 93 = .ok (.ifCond .ne 6, 3) := by decide +kernel
theorem d_Se_wins_96 : decode b_Se_wins 96 = .ok (.goto 52, 3) := by decide +kernel
theorem d_Se_wins_99 : decode b_Se_wins 99 = .ok (.iconst 0, 1) := by decide +kernel
theorem d_Se_wins_100 : decode b_Se_wins 100 = .ok (.istore 10, 2) := by decide +kernel
theorem d_Se_wins_102 : decode b_Se_wins 102 = .ok (.iload 10, 2) := by decide +kernel
theorem d_Se_wins_104 : decode b_Se_wins 104 = .ok (.aload 9, 2) := by decide +kernel
theorem d_Se_wins_106 : decode b_Se_wins 106 = .ok (.getfield 55, 3) := by decide +kernel
theorem d_Se_wins_109 : decode b_Se_wins 109 = .ok (.if_icmp .ge 39, 3) := by decide +kernel
theorem d_Se_wins_112 : decode b_Se_wins 112 = .ok (.aload_n 0, 1) := by decide +kernel
theorem d_Se_wins_113 : decode b_Se_wins 113 = .ok (.aload_n 1, 1) := by decide +kernel
theorem d_Se_wins_114 : decode b_Se_wins 114 = .ok (.aload_n 2, 1) := by decide +kernel
theorem d_Se_wins_115 : decode b_Se_wins 115 = .ok (.aload 9, 2) := by decide +kernel
theorem d_Se_wins_117 : decode b_Se_wins 117 = .ok (.getfield 58, 3) := by decide +kernel
theorem d_Se_wins_120 : decode b_Se_wins 120 = .ok (.iload 10, 2) := by decide +kernel
theorem d_Se_wins_122 : decode b_Se_wins 122 = .ok (.aaload, 1) := by decide +kernel
theorem d_Se_wins_123 : decode b_Se_wins 123 = .ok (.getfield 62, 3) := by decide +kernel
theorem d_Se_wins_126 : decode b_Se_wins 126 = .ok (.aload_n 0, 1) := by decide +kernel
theorem d_Se_wins_127 : decode b_Se_wins 127 = .ok (.getfield 15, 3) := by decide +kernel
theorem d_Se_wins_130 : decode b_Se_wins 130 = .ok (.iload 7, 2) := by decide +kernel
theorem d_Se_wins_132 : decode b_Se_wins 132 = .ok (.iaload, 1) := by decide +kernel
theorem d_Se_wins_133 : decode b_Se_wins 133 = .ok (.iaload, 1) := by decide +kernel
theorem d_Se_wins_134 : decode b_Se_wins 134 = .ok (.invokevirtual 38, 3) := by decide +kernel
theorem d_Se_wins_137 : decode b_Se_wins 137 = .ok (.ifCond .eq 5, 3) := by decide +kernel
theorem d_Se_wins_140 : decode b_Se_wins 140 = .ok (.iconst 1, 1) := by decide +kernel
theorem d_Se_wins_141 : decode b_Se_wins 141 = .ok (.ireturn, 1) := by decide +kernel
theorem d_Se_wins_142 : decode b_Se_wins 142 = .ok (.iinc 10 1, 3) := by decide +kernel
theorem d_Se_wins_145 : decode b_Se_wins 145 = .ok (.goto (-43), 3) := by decide +kernel
theorem d_Se_wins_148 : decode b_Se_wins 148 = .ok (.iinc 8 1, 3) := by decide +kernel
theorem d_Se_wins_151 : decode b_Se_wins 151 = .ok (.goto (-95), 3) := by decide +kernel
theorem d_Se_wins_154 : decode b_Se_wins 154 = .ok (.iinc 7 1, 3) := by decide +kernel
theorem d_Se_wins_157 : decode b_Se_wins 157 = .ok (.goto (-122), 3) := by decide +kernel
theorem d_Se_wins_160 : decode b_Se_wins 160 = .ok (.iconst 0, 1) := by decide +kernel
theorem d_Se_wins_161 : decode b_Se_wins 161 = .ok (.ireturn, 1) := by decide +kernel
set_option maxRecDepth 100000 in
set_option maxHeartbeats 4000000 in
theorem S_Se_wins_0 {G : Gc} {M : Mc} {Q : State → Prop} {K : Option Value → Hp → Prop} (hG : gok G) (hM : mok G M r_Se_wins Q K) (v0 : Nat) (v1 : Nat) (v2 : Nat) (v3 : Int32) (v4 : Int32) (v5 : Int32) (v6 : Int32) (h : Hp) (F : kT h v0 = 11 ∧ (∀ h1 : Hp, h1 = wI h v0 3 v5 → (kT h1 v0 = 11 ∧ (∀ h2 : Hp, h2 = wI h1 v0 4 v6 → (kT h2 v1 = 2 ∧ (kT h2 v0 = 11 ∧ sem G r_Se_begin [.ref v0, .int (kI h2 v1 1)] h2 (fun u4 h3 => u4 = none ∧ (kT h3 v0 = 11 ∧ sem G r_Se_visit [.ref v0, .ref v1, .ref v2, .int v3] h3 (fun u6 h5 => ∃ x7 : Int32, u6 = some (.int x7) ∧ ((x7 = 0 → X G M Q 35 [(0, .ref v0), (1, .ref v1), (2, .ref v2), (4, .int v4), (7, .int 0)] [] h5) ∧ (¬ x7 = 0 → K (some (.int 1)) h5))))))))))) : X G M Q 0 [(0, .ref v0), (1, .ref v1), (2, .ref v2), (3, .int v3), (4, .int v4), (5, .int v5), (6, .int v6)] [] h := by
  refine x_aload_n hM d_Se_wins_0 rfl 0 rfl ?_
  refine x_iload hM d_Se_wins_1 5 rfl ?_
  obtain ⟨c13, F⟩ := F
  obtain ⟨h1, eh1⟩ : ∃ z : Hp, z = wI h v0 3 v5 := ⟨_, rfl⟩
  replace F := F h1 eh1
  refine x_puti hG hM ck_Se 3 (Nat.le_of_ble_eq_true rfl) rfl rfl w_389 rfl d_Se_wins_3 (Or.inl rfl) c13 ?_
  rw [← eh1]
  clear eh1
  refine x_aload_n hM d_Se_wins_6 rfl 0 rfl ?_
  refine x_iload hM d_Se_wins_7 6 rfl ?_
  obtain ⟨c12, F⟩ := F
  obtain ⟨h2, eh2⟩ : ∃ z : Hp, z = wI h1 v0 4 v6 := ⟨_, rfl⟩
  replace F := F h2 eh2
  refine x_puti hG hM ck_Se 4 (Nat.le_of_ble_eq_true rfl) rfl rfl w_390 rfl d_Se_wins_9 (Or.inl rfl) c12 ?_
  rw [← eh2]
  clear eh2
  refine x_aload_n hM d_Se_wins_12 rfl 0 rfl ?_
  refine x_aload_n hM d_Se_wins_13 rfl 1 rfl ?_
  obtain ⟨c11, F⟩ := F
  refine x_geti hG hM ck_Wo 1 (Nat.le_of_ble_eq_true rfl) rfl rfl w_129 rfl d_Se_wins_14 c11 ?_
  obtain ⟨c10, F⟩ := F
  refine x_callV hG hM (r' := r_Se_begin) (ci := 10) [.int (kI h2 v1 1)] rfl rfl (Nat.le_of_ble_eq_true rfl) yk_Se_begin ⟨Nat.le_of_ble_eq_true rfl, Nat.le_of_ble_eq_true rfl⟩ w_817 w_819 ws_Se_begin rfl rfl (Nat.le_of_ble_eq_true rfl) d_Se_wins_17 c10 (sem_mono F ?_)
  intro u4 h3 F
  obtain ⟨rfl, F⟩ := F
  refine x_aload_n hM d_Se_wins_20 rfl 0 rfl ?_
  refine x_aload_n hM d_Se_wins_21 rfl 1 rfl ?_
  refine x_aload_n hM d_Se_wins_22 rfl 2 rfl ?_
  refine x_iload_n hM d_Se_wins_23 rfl 3 rfl ?_
  obtain ⟨c9, F⟩ := F
  refine x_callV hG hM (r' := r_Se_visit) (ci := 10) [.ref v1, .ref v2, .int v3] rfl rfl (Nat.le_of_ble_eq_true rfl) yk_Se_visit ⟨Nat.le_of_ble_eq_true rfl, Nat.le_of_ble_eq_true rfl⟩ w_823 w_825 ws_Se_visit rfl rfl (Nat.le_of_ble_eq_true rfl) d_Se_wins_24 c9 (sem_mono F ?_)
  intro u6 h5 F
  obtain ⟨x7, rfl, F⟩ := F
  refine x_if_eq (tgt := 32) hM d_Se_wins_27 (by decide) (fun q8 => ?_) (fun q8 => ?_)
  · replace F := F.1 q8
    refine x_iconst (v := 0) hM d_Se_wins_32 (by decide) ?_
    refine x_istore (lv2 := [(7, .int 0), (0, .ref v0), (1, .ref v1), (2, .ref v2), (3, .int v3), (4, .int v4), (5, .int v5), (6, .int v6)]) hM d_Se_wins_33 (Nat.le_of_ble_eq_true rfl) rfl ?_
    refine x_sub [1, 2, 3, 5, 0] rfl ?_
    exact F
  · replace F := F.2 q8
    refine x_iconst (v := 1) hM d_Se_wins_30 (by decide) ?_
    exact x_zreturn hM d_Se_wins_31 rfl (Or.inr rfl) F
set_option maxRecDepth 100000 in
set_option maxHeartbeats 4000000 in
theorem S_Se_wins_35 {G : Gc} {M : Mc} {Q : State → Prop} {K : Option Value → Hp → Prop} (hG : gok G) (hM : mok G M r_Se_wins Q K) (v0 : Nat) (v1 : Nat) (v2 : Nat) (v4 : Int32) (v7 : Int32) (h : Hp) (F : kT h v0 = 11 ∧ (((kI h v0 2) ≤ v7 → K (some (.int 0)) h) ∧ (¬ (kI h v0 2) ≤ v7 → (kT h v1 = 2 ∧ (((kI h v1 1) ≤ v7 → K (some (.int 0)) h) ∧ (¬ (kI h v1 1) ≤ v7 → X G M Q 56 [(0, .ref v0), (1, .ref v1), (2, .ref v2), (4, .int v4), (7, .int v7), (8, .int 0)] [] h)))))) : X G M Q 35 [(0, .ref v0), (1, .ref v1), (2, .ref v2), (4, .int v4), (7, .int v7)] [] h := by
  refine x_iload hM d_Se_wins_35 4 rfl ?_
  refine x_aload_n hM d_Se_wins_37 rfl 0 rfl ?_
  obtain ⟨c4, F⟩ := F
  refine x_geti hG hM ck_Se 2 (Nat.le_of_ble_eq_true rfl) rfl rfl w_388 rfl d_Se_wins_38 c4 ?_
  refine x_icmp_ge (tgt := 160) hM d_Se_wins_41 (by decide) (fun q3 => ?_) (fun q3 => ?_)
  · replace F := F.1 q3
    refine x_iconst (v := 0) hM d_Se_wins_160 (by decide) ?_
    exact x_zreturn hM d_Se_wins_161 rfl (Or.inl rfl) F
  · replace F := F.2 q3
    refine x_iload hM d_Se_wins_44 4 rfl ?_
    refine x_aload_n hM d_Se_wins_46 rfl 1 rfl ?_
    obtain ⟨c2, F⟩ := F
    refine x_geti hG hM ck_Wo 1 (Nat.le_of_ble_eq_true rfl) rfl rfl w_129 rfl d_Se_wins_47 c2 ?_
    refine x_icmp_ge (tgt := 160) hM d_Se_wins_50 (by decide) (fun q1 => ?_) (fun q1 => ?_)
    · replace F := F.1 q1
      refine x_iconst (v := 0) hM d_Se_wins_160 (by decide) ?_
      exact x_zreturn hM d_Se_wins_161 rfl (Or.inl rfl) F
    · replace F := F.2 q1
      refine x_iconst (v := 0) hM d_Se_wins_53 (by decide) ?_
      refine x_istore (lv2 := [(8, .int 0), (0, .ref v0), (1, .ref v1), (2, .ref v2), (4, .int v4), (7, .int v7)]) hM d_Se_wins_54 (Nat.le_of_ble_eq_true rfl) rfl ?_
      refine x_sub [1, 2, 3, 4, 5, 0] rfl ?_
      exact F
set_option maxRecDepth 100000 in
set_option maxHeartbeats 4000000 in
theorem S_Se_wins_56 {G : Gc} {M : Mc} {Q : State → Prop} {K : Option Value → Hp → Prop} (hG : gok G) (hM : mok G M r_Se_wins Q K) (v0 : Nat) (v1 : Nat) (v2 : Nat) (v4 : Int32) (v7 : Int32) (v8 : Int32) (h : Hp) (F : kT h v1 = 2 ∧ (((kI h v1 2) ≤ v8 → X G M Q 35 [(0, .ref v0), (1, .ref v1), (2, .ref v2), (4, .int v4), (7, .int (v7 + 1))] [] h) ∧ (¬ (kI h v1 2) ≤ v8 → (kT h v1 = 2 ∧ kR h v1 5 = some (rf h v1 5) ∧ (kT h (rf h v1 5) = 53 ∧ vp_in v8 (kN h (rf h v1 5)) ∧ kR h (rf h v1 5) (Int32.toNatClampNeg v8) = some (rf h (rf h v1 5) (Int32.toNatClampNeg v8)) ∧ ((v8 = v4 → X G M Q 56 [(0, .ref v0), (1, .ref v1), (2, .ref v2), (4, .int v4), (7, .int v7), (8, .int (v8 + 1))] [] h) ∧ (¬ v8 = v4 → (kT h v0 = 11 ∧ kR h v0 1 = some (rf h v0 1) ∧ (kT h (rf h v0 1) = 50 ∧ vp_in v7 (kN h (rf h v0 1)) ∧ (kT h (rf h (rf h v1 5) (Int32.toNatClampNeg v8)) = 3 ∧ sem G r_Ac_canBeDone [.ref (rf h (rf h v1 5) (Int32.toNatClampNeg v8)), .int (kI h (rf h v0 1) (Int32.toNatClampNeg v7))] h (fun u2 h1 => ∃ x3 : Int32, u2 = some (.int x3) ∧ ((x3 = 0 → X G M Q 56 [(0, .ref v0), (1, .ref v1), (2, .ref v2), (4, .int v4), (7, .int v7), (8, .int (v8 + 1))] [] h1) ∧ (¬ x3 = 0 → X G M Q 102 [(0, .ref v0), (1, .ref v1), (2, .ref v2), (4, .int v4), (7, .int v7), (8, .int v8), (9, .ref (rf h (rf h v1 5) (Int32.toNatClampNeg v8))), (10, .int 0)] [] h1))))))))))))) : X G M Q 56 [(0, .ref v0), (1, .ref v1), (2, .ref v2), (4, .int v4), (7, .int v7), (8, .int v8)] [] h := by
  refine x_iload hM d_Se_wins_56 5 rfl ?_
  refine x_aload_n hM d_Se_wins_58 rfl 1 rfl ?_
  obtain ⟨c17, F⟩ := F
  refine x_geti hG hM ck_Wo 2 (Nat.le_of_ble_eq_true rfl) rfl rfl w_134 rfl d_Se_wins_59 c17 ?_
  refine x_icmp_ge (tgt := 154) hM d_Se_wins_62 (by decide) (fun q16 => ?_) (fun q16 => ?_)
  · replace F := F.1 q16
    refine x_iinc (v := (v7 + 1)) (lv2 := [(7, .int (v7 + 1)), (0, .ref v0), (1, .ref v1), (2, .ref v2), (4, .int v4), (8, .int v8)]) hM d_Se_wins_154 (j := 4) rfl rfl (Nat.le_of_ble_eq_true rfl) rfl ?_
    refine x_goto (tgt := 35) hM d_Se_wins_157 (by decide) ?_
    refine x_sub [1, 2, 3, 4, 0] rfl ?_
    exact F
  · replace F := F.2 q16
    refine x_aload_n hM d_Se_wins_65 rfl 1 rfl ?_
    obtain ⟨c14, F⟩ := F
    obtain ⟨c15, F⟩ := F
    refine x_getr hG hM ck_Wo 5 (Nat.le_of_ble_eq_true rfl) rfl rfl w_144 rfl d_Se_wins_66 c14 c15 ?_
    refine x_iload hM d_Se_wins_69 5 rfl ?_
    obtain ⟨c11, F⟩ := F
    obtain ⟨c12, F⟩ := F
    obtain ⟨c13, F⟩ := F
    refine x_aaload hG hM 53 rfl (Nat.le_of_ble_eq_true rfl) d_Se_wins_71 c11 c12 c13 ?_
    refine x_astore (lv2 := [(9, .ref (rf h (rf h v1 5) (Int32.toNatClampNeg v8))), (0, .ref v0), (1, .ref v1), (2, .ref v2), (4, .int v4), (7, .int v7), (8, .int v8)]) hM d_Se_wins_72 (Nat.le_of_ble_eq_true rfl) rfl ?_
    refine x_iload hM d_Se_wins_74 6 rfl ?_
    refine x_iload hM d_Se_wins_76 4 rfl ?_
    refine x_icmp_eq (tgt := 148) hM d_Se_wins_78 (by decide) (fun q10 => ?_) (fun q10 => ?_)
    · replace F := F.1 q10
      refine x_iinc (v := (v8 + 1)) (lv2 := [(8, .int (v8 + 1)), (9, .ref (rf h (rf h v1 5) (Int32.toNatClampNeg v8))), (0, .ref v0), (1, .ref v1), (2, .ref v2), (4, .int v4), (7, .int v7)]) hM d_Se_wins_148 (j := 6) rfl rfl (Nat.le_of_ble_eq_true rfl) rfl ?_
      refine x_goto (tgt := 56) hM d_Se_wins_151 (by decide) ?_
      refine x_sub [2, 3, 4, 5, 6, 0] rfl ?_
      exact F
    · replace F := F.2 q10
      refine x_aload hM d_Se_wins_81 0 rfl ?_
      refine x_aload_n hM d_Se_wins_83 rfl 1 rfl ?_
      obtain ⟨c8, F⟩ := F
      obtain ⟨c9, F⟩ := F
      refine x_getr hG hM ck_Se 1 (Nat.le_of_ble_eq_true rfl) rfl rfl w_387 rfl d_Se_wins_84 c8 c9 ?_
      refine x_iload hM d_Se_wins_87 5 rfl ?_
      obtain ⟨c6, F⟩ := F
      obtain ⟨c7, F⟩ := F
      refine x_iaload hG hM d_Se_wins_89 c6 c7 ?_
      obtain ⟨c5, F⟩ := F
      refine x_callV hG hM (r' := r_Ac_canBeDone) (ci := 2) [.int (kI h (rf h v0 1) (Int32.toNatClampNeg v7))] rfl rfl (Nat.le_of_ble_eq_true rfl) yk_Ac_canBeDone ⟨Nat.le_of_ble_eq_true rfl, Nat.le_of_ble_eq_true rfl⟩ w_828 w_631 w_632 rfl rfl (Nat.le_of_ble_eq_true rfl) d_Se_wins_90 c5 (sem_mono F ?_)
      intro u2 h1 F
      obtain ⟨x3, rfl, F⟩ := F
      refine x_if_ne (tgt := 99) hM d_Se_wins_93 (by decide) (fun q4 => ?_) (fun q4 => ?_)
      · replace F := F.2 q4
        refine x_iconst (v := 0) hM d_Se_wins_99 (by decide) ?_
        refine x_istore (lv2 := [(10, .int 0), (9, .ref (rf h (rf h v1 5) (Int32.toNatClampNeg v8))), (0, .ref v0), (1, .ref v1), (2, .ref v2), (4, .int v4), (7, .int v7), (8, .int v8)]) hM d_Se_wins_100 (Nat.le_of_ble_eq_true rfl) rfl ?_
        refine x_sub [2, 3, 4, 5, 6, 7, 1, 0] rfl ?_
        exact F
      · replace F := F.1 q4
        refine x_goto (tgt := 148) hM d_Se_wins_96 (by decide) ?_
        refine x_iinc (v := (v8 + 1)) (lv2 := [(8, .int (v8 + 1)), (9, .ref (rf h (rf h v1 5) (Int32.toNatClampNeg v8))), (0, .ref v0), (1, .ref v1), (2, .ref v2), (4, .int v4), (7, .int v7)]) hM d_Se_wins_148 (j := 6) rfl rfl (Nat.le_of_ble_eq_true rfl) rfl ?_
        refine x_goto (tgt := 56) hM d_Se_wins_151 (by decide) ?_
        refine x_sub [2, 3, 4, 5, 6, 0] rfl ?_
        exact F
set_option maxRecDepth 100000 in
set_option maxHeartbeats 4000000 in
theorem S_Se_wins_102 {G : Gc} {M : Mc} {Q : State → Prop} {K : Option Value → Hp → Prop} (hG : gok G) (hM : mok G M r_Se_wins Q K) (v0 : Nat) (v1 : Nat) (v2 : Nat) (v4 : Int32) (v7 : Int32) (v8 : Int32) (v9 : Nat) (v10 : Int32) (h : Hp) (F : kT h v9 = 3 ∧ (((kI h v9 2) ≤ v10 → X G M Q 56 [(0, .ref v0), (1, .ref v1), (2, .ref v2), (4, .int v4), (7, .int v7), (8, .int (v8 + 1))] [] h) ∧ (¬ (kI h v9 2) ≤ v10 → (kT h v9 = 3 ∧ kR h v9 1 = some (rf h v9 1) ∧ (kT h (rf h v9 1) = 54 ∧ vp_in v10 (kN h (rf h v9 1)) ∧ kR h (rf h v9 1) (Int32.toNatClampNeg v10) = some (rf h (rf h v9 1) (Int32.toNatClampNeg v10)) ∧ (kT h (rf h (rf h v9 1) (Int32.toNatClampNeg v10)) = 4 ∧ kR h (rf h (rf h v9 1) (Int32.toNatClampNeg v10)) 1 = some (rf h (rf h (rf h v9 1) (Int32.toNatClampNeg v10)) 1) ∧ (kT h v0 = 11 ∧ kR h v0 1 = some (rf h v0 1) ∧ (kT h (rf h v0 1) = 50 ∧ vp_in v7 (kN h (rf h v0 1)) ∧ (kT h (rf h (rf h (rf h v9 1) (Int32.toNatClampNeg v10)) 1) = 50 ∧ vp_in (kI h (rf h v0 1) (Int32.toNatClampNeg v7)) (kN h (rf h (rf h (rf h v9 1) (Int32.toNatClampNeg v10)) 1)) ∧ (kT h v0 = 11 ∧ sem G r_Se_visit [.ref v0, .ref v1, .ref v2, .int (kI h (rf h (rf h (rf h v9 1) (Int32.toNatClampNeg v10)) 1) (Int32.toNatClampNeg (kI h (rf h v0 1) (Int32.toNatClampNeg v7))))] h (fun u2 h1 => ∃ x3 : Int32, u2 = some (.int x3) ∧ ((x3 = 0 → X G M Q 102 [(0, .ref v0), (1, .ref v1), (2, .ref v2), (4, .int v4), (7, .int v7), (8, .int v8), (9, .ref v9), (10, .int (v10 + 1))] [] h1) ∧ (¬ x3 = 0 → K (some (.int 1)) h1))))))))))))) : X G M Q 102 [(0, .ref v0), (1, .ref v1), (2, .ref v2), (4, .int v4), (7, .int v7), (8, .int v8), (9, .ref v9), (10, .int v10)] [] h := by
  refine x_iload hM d_Se_wins_102 7 rfl ?_
  refine x_aload hM d_Se_wins_104 6 rfl ?_
  obtain ⟨c20, F⟩ := F
  refine x_geti hG hM ck_Ac 2 (Nat.le_of_ble_eq_true rfl) rfl rfl w_105 rfl d_Se_wins_106 c20 ?_
  refine x_icmp_ge (tgt := 148) hM d_Se_wins_109 (by decide) (fun q19 => ?_) (fun q19 => ?_)
  · replace F := F.1 q19
    refine x_iinc (v := (v8 + 1)) (lv2 := [(8, .int (v8 + 1)), (0, .ref v0), (1, .ref v1), (2, .ref v2), (4, .int v4), (7, .int v7), (9, .ref v9), (10, .int v10)]) hM d_Se_wins_148 (j := 5) rfl rfl (Nat.le_of_ble_eq_true rfl) rfl ?_
    refine x_goto (tgt := 56) hM d_Se_wins_151 (by decide) ?_
    refine x_sub [1, 2, 3, 4, 5, 0] rfl ?_
    exact F
  · replace F := F.2 q19
    refine x_aload_n hM d_Se_wins_112 rfl 0 rfl ?_
    refine x_aload_n hM d_Se_wins_113 rfl 1 rfl ?_
    refine x_aload_n hM d_Se_wins_114 rfl 2 rfl ?_
    refine x_aload hM d_Se_wins_115 6 rfl ?_
    obtain ⟨c17, F⟩ := F
    obtain ⟨c18, F⟩ := F
    refine x_getr hG hM ck_Ac 1 (Nat.le_of_ble_eq_true rfl) rfl rfl w_97 rfl d_Se_wins_117 c17 c18 ?_
    refine x_iload hM d_Se_wins_120 7 rfl ?_
    obtain ⟨c14, F⟩ := F
    obtain ⟨c15, F⟩ := F
    obtain ⟨c16, F⟩ := F
    refine x_aaload hG hM 54 rfl (Nat.le_of_ble_eq_true rfl) d_Se_wins_122 c14 c15 c16 ?_
    obtain ⟨c12, F⟩ := F
    obtain ⟨c13, F⟩ := F
    refine x_getr hG hM ck_Ou 1 (Nat.le_of_ble_eq_true rfl) rfl rfl w_77 rfl d_Se_wins_123 c12 c13 ?_
    refine x_aload_n hM d_Se_wins_126 rfl 0 rfl ?_
    obtain ⟨c10, F⟩ := F
    obtain ⟨c11, F⟩ := F
    refine x_getr hG hM ck_Se 1 (Nat.le_of_ble_eq_true rfl) rfl rfl w_387 rfl d_Se_wins_127 c10 c11 ?_
    refine x_iload hM d_Se_wins_130 4 rfl ?_
    obtain ⟨c8, F⟩ := F
    obtain ⟨c9, F⟩ := F
    refine x_iaload hG hM d_Se_wins_132 c8 c9 ?_
    obtain ⟨c6, F⟩ := F
    obtain ⟨c7, F⟩ := F
    refine x_iaload hG hM d_Se_wins_133 c6 c7 ?_
    obtain ⟨c5, F⟩ := F
    refine x_callV hG hM (r' := r_Se_visit) (ci := 10) [.ref v1, .ref v2, .int (kI h (rf h (rf h (rf h v9 1) (Int32.toNatClampNeg v10)) 1) (Int32.toNatClampNeg (kI h (rf h v0 1) (Int32.toNatClampNeg v7))))] rfl rfl (Nat.le_of_ble_eq_true rfl) yk_Se_visit ⟨Nat.le_of_ble_eq_true rfl, Nat.le_of_ble_eq_true rfl⟩ w_823 w_825 ws_Se_visit rfl rfl (Nat.le_of_ble_eq_true rfl) d_Se_wins_134 c5 (sem_mono F ?_)
    intro u2 h1 F
    obtain ⟨x3, rfl, F⟩ := F
    refine x_if_eq (tgt := 142) hM d_Se_wins_137 (by decide) (fun q4 => ?_) (fun q4 => ?_)
    · replace F := F.1 q4
      refine x_iinc (v := (v10 + 1)) (lv2 := [(10, .int (v10 + 1)), (0, .ref v0), (1, .ref v1), (2, .ref v2), (4, .int v4), (7, .int v7), (8, .int v8), (9, .ref v9)]) hM d_Se_wins_142 (j := 7) rfl rfl (Nat.le_of_ble_eq_true rfl) rfl ?_
      refine x_goto (tgt := 102) hM d_Se_wins_145 (by decide) ?_
      refine x_sub [1, 2, 3, 4, 5, 6, 7, 0] rfl ?_
      exact F
    · replace F := F.2 q4
      refine x_iconst (v := 1) hM d_Se_wins_140 (by decide) ?_
      exact x_zreturn hM d_Se_wins_141 rfl (Or.inr rfl) F
theorem d_Se_begin_0 : decode b_Se_begin 0 = .ok (.aload_n 0, 1) := by decide +kernel
theorem d_Se_begin_1 : decode b_Se_begin 1 = .ok (.aload_n 0, 1) := by decide +kernel
theorem d_Se_begin_2 : decode b_Se_begin 2 = .ok (.getfield 9, 3) := by decide +kernel
theorem d_Se_begin_5 : decode b_Se_begin 5 = .ok (.iload_n 1, 1) := by decide +kernel
theorem d_Se_begin_6 : decode b_Se_begin 6 = .ok (.invokestatic 67, 3) := by decide +kernel
theorem d_Se_begin_9 : decode b_Se_begin 9 = .ok (.putfield 9, 3) := by decide +kernel
theorem d_Se_begin_12 : decode b_Se_begin 12 = .ok (.aload_n 0, 1) := by decide +kernel
theorem d_Se_begin_13 : decode b_Se_begin 13 = .ok (.aload_n 0, 1) := by decide +kernel
theorem d_Se_begin_14 : decode b_Se_begin 14 = .ok (.getfield 15, 3) := by decide +kernel
theorem d_Se_begin_17 : decode b_Se_begin 17 = .ok (.iload_n 1, 1) := by decide +kernel
theorem d_Se_begin_18 : decode b_Se_begin 18 = .ok (.invokestatic 71, 3) := by decide +kernel
theorem d_Se_begin_21 : decode b_Se_begin 21 = .ok (.putfield 15, 3) := by decide +kernel
theorem d_Se_begin_24 : decode b_Se_begin 24 = .ok (.aload_n 0, 1) := by decide +kernel
theorem d_Se_begin_25 : decode b_Se_begin 25 = .ok (.iconst 0, 1) := by decide +kernel
theorem d_Se_begin_26 : decode b_Se_begin 26 = .ok (.putfield 19, 3) := by decide +kernel
theorem d_Se_begin_29 : decode b_Se_begin 29 = .ok (.iconst 0, 1) := by decide +kernel
theorem d_Se_begin_30 : decode b_Se_begin 30 = .ok (.istore_n 2, 1) := by decide +kernel
theorem d_Se_begin_31 : decode b_Se_begin 31 = .ok (.iload_n 2, 1) := by decide +kernel
theorem d_Se_begin_32 : decode b_Se_begin 32 = .ok (.iload_n 1, 1) := by decide +kernel
theorem d_Se_begin_33 : decode b_Se_begin 33 = .ok (.if_icmp .ge 16, 3) := by decide +kernel
theorem d_Se_begin_36 : decode b_Se_begin 36 = .ok (.aload_n 0, 1) := by decide +kernel
theorem d_Se_begin_37 : decode b_Se_begin 37 = .ok (.getfield 9, 3) := by decide +kernel
theorem d_Se_begin_40 : decode b_Se_begin 40 = .ok (.iload_n 2, 1) := by decide +kernel
theorem d_Se_begin_41 : decode b_Se_begin 41 = .ok (.iconst 0, 1) := by decide +kernel
theorem d_Se_begin_42 : decode b_Se_begin 42 = .ok (.bastore, 1) := by decide +kernel
theorem d_Se_begin_43 : decode b_Se_begin 43 = .ok (.iinc 2 1, 3) := by decide +kernel
theorem d_Se_begin_46 : decode b_Se_begin 46 = .ok (.goto (-15), 3) := by decide +kernel
theorem d_Se_begin_49 : decode b_Se_begin 49 = .ok (.return_, 1) := by decide +kernel
set_option maxRecDepth 100000 in
set_option maxHeartbeats 4000000 in
theorem S_Se_begin_0 {G : Gc} {M : Mc} {Q : State → Prop} {K : Option Value → Hp → Prop} (hG : gok G) (hM : mok G M r_Se_begin Q K) (v0 : Nat) (v1 : Int32) (h : Hp) (F : kT h v0 = 11 ∧ kR h v0 0 = some (rf h v0 0) ∧ (sem G r_WP_marksFor [.ref (rf h v0 0), .int v1] h (fun u2 h1 => ∃ x3 : Nat, u2 = some (.ref x3) ∧ (kT h1 v0 = 11 ∧ (∀ h4 : Hp, h4 = wR h1 v0 0 (some x3) → (kT h4 v0 = 11 ∧ kR h4 v0 1 = some (rf h4 v0 1) ∧ (sem G r_WP_rowFor [.ref (rf h4 v0 1), .int v1] h4 (fun u6 h5 => ∃ x7 : Nat, u6 = some (.ref x7) ∧ (kT h5 v0 = 11 ∧ (∀ h8 : Hp, h8 = wR h5 v0 1 (some x7) → (kT h8 v0 = 11 ∧ (∀ h9 : Hp, h9 = wI h8 v0 2 0 → X G M Q 31 [(0, .ref v0), (1, .int v1), (2, .int 0)] [] h9)))))))))))) : X G M Q 0 [(0, .ref v0), (1, .int v1)] [] h := by
  refine x_aload_n hM d_Se_begin_0 rfl 0 rfl ?_
  refine x_aload_n hM d_Se_begin_1 rfl 0 rfl ?_
  obtain ⟨c15, F⟩ := F
  obtain ⟨c16, F⟩ := F
  refine x_getr hG hM ck_Se 0 (Nat.le_of_ble_eq_true rfl) rfl rfl w_386 rfl d_Se_begin_2 c15 c16 ?_
  refine x_iload_n hM d_Se_begin_5 rfl 1 rfl ?_
  refine x_callSN hG hM (r' := r_WP_marksFor) [.ref (rf h v0 0), .int v1] rfl yk_WP_marksFor ⟨Nat.le_of_ble_eq_true rfl, Nat.le_of_ble_eq_true rfl⟩ w_821 w_647 rfl rfl (Nat.le_of_ble_eq_true rfl) d_Se_begin_6 (sem_mono F ?_)
  intro u2 h1 F
  obtain ⟨x3, rfl, F⟩ := F
  obtain ⟨c14, F⟩ := F
  obtain ⟨h4, eh4⟩ : ∃ z : Hp, z = wR h1 v0 0 (some x3) := ⟨_, rfl⟩
  replace F := F h4 eh4
  refine x_putr hG hM ck_Se 0 (Nat.le_of_ble_eq_true rfl) (Or.inr ⟨_, rfl⟩) rfl w_386 rfl d_Se_begin_9 (Or.inl rfl) c14 ?_
  rw [← eh4]
  clear eh4
  refine x_aload_n hM d_Se_begin_12 rfl 0 rfl ?_
  refine x_aload_n hM d_Se_begin_13 rfl 0 rfl ?_
  obtain ⟨c12, F⟩ := F
  obtain ⟨c13, F⟩ := F
  refine x_getr hG hM ck_Se 1 (Nat.le_of_ble_eq_true rfl) rfl rfl w_387 rfl d_Se_begin_14 c12 c13 ?_
  refine x_iload_n hM d_Se_begin_17 rfl 1 rfl ?_
  refine x_callSN hG hM (r' := r_WP_rowFor) [.ref (rf h4 v0 1), .int v1] rfl yk_WP_rowFor ⟨Nat.le_of_ble_eq_true rfl, Nat.le_of_ble_eq_true rfl⟩ w_822 w_586 rfl rfl (Nat.le_of_ble_eq_true rfl) d_Se_begin_18 (sem_mono F ?_)
  intro u6 h5 F
  obtain ⟨x7, rfl, F⟩ := F
  obtain ⟨c11, F⟩ := F
  obtain ⟨h8, eh8⟩ : ∃ z : Hp, z = wR h5 v0 1 (some x7) := ⟨_, rfl⟩
  replace F := F h8 eh8
  refine x_putr hG hM ck_Se 1 (Nat.le_of_ble_eq_true rfl) (Or.inr ⟨_, rfl⟩) rfl w_387 rfl d_Se_begin_21 (Or.inl rfl) c11 ?_
  rw [← eh8]
  clear eh8
  refine x_aload_n hM d_Se_begin_24 rfl 0 rfl ?_
  refine x_iconst (v := 0) hM d_Se_begin_25 (by decide) ?_
  obtain ⟨c10, F⟩ := F
  obtain ⟨h9, eh9⟩ : ∃ z : Hp, z = wI h8 v0 2 0 := ⟨_, rfl⟩
  replace F := F h9 eh9
  refine x_puti hG hM ck_Se 2 (Nat.le_of_ble_eq_true rfl) rfl rfl w_388 rfl d_Se_begin_26 (Or.inl rfl) c10 ?_
  rw [← eh9]
  clear eh9
  refine x_iconst (v := 0) hM d_Se_begin_29 (by decide) ?_
  refine x_istore_n (lv2 := [(2, .int 0), (0, .ref v0), (1, .int v1)]) hM d_Se_begin_30 rfl (Nat.le_of_ble_eq_true rfl) rfl ?_
  refine x_sub [1, 2, 0] rfl ?_
  exact F
set_option maxRecDepth 100000 in
set_option maxHeartbeats 4000000 in
theorem S_Se_begin_31 {G : Gc} {M : Mc} {Q : State → Prop} {K : Option Value → Hp → Prop} (hG : gok G) (hM : mok G M r_Se_begin Q K) (v0 : Nat) (v1 : Int32) (v2 : Int32) (h : Hp) (F : (v1 ≤ v2 → K none h) ∧ (¬ v1 ≤ v2 → (kT h v0 = 11 ∧ kR h v0 0 = some (rf h v0 0) ∧ (kT h (rf h v0 0) = 51 ∧ vp_in v2 (kN h (rf h v0 0)) ∧ (∀ h1 : Hp, h1 = wI h (rf h v0 0) (Int32.toNatClampNeg v2) 0 → X G M Q 31 [(0, .ref v0), (1, .int v1), (2, .int (v2 + 1))] [] h1))))) : X G M Q 31 [(0, .ref v0), (1, .int v1), (2, .int v2)] [] h := by
  refine x_iload_n hM d_Se_begin_31 rfl 2 rfl ?_
  refine x_iload_n hM d_Se_begin_32 rfl 1 rfl ?_
  refine x_icmp_ge (tgt := 49) hM d_Se_begin_33 (by decide) (fun q6 => ?_) (fun q6 => ?_)
  · replace F := F.1 q6
    exact x_return hM d_Se_begin_49 rfl F
  · replace F := F.2 q6
    refine x_aload_n hM d_Se_begin_36 rfl 0 rfl ?_
    obtain ⟨c4, F⟩ := F
    obtain ⟨c5, F⟩ := F
    refine x_getr hG hM ck_Se 0 (Nat.le_of_ble_eq_true rfl) rfl rfl w_386 rfl d_Se_begin_37 c4 c5 ?_
    refine x_iload_n hM d_Se_begin_40 rfl 2 rfl ?_
    refine x_iconst (v := 0) hM d_Se_begin_41 (by decide) ?_
    obtain ⟨c2, F⟩ := F
    obtain ⟨c3, F⟩ := F
    obtain ⟨h1, eh1⟩ : ∃ z : Hp, z = wI h (rf h v0 0) (Int32.toNatClampNeg v2) 0 := ⟨_, rfl⟩
    replace F := F h1 eh1
    refine x_zastore hG hM d_Se_begin_42 c2 c3 (Or.inl rfl) ?_
    rw [← eh1]
    clear eh1
    refine x_iinc (v := (v2 + 1)) (lv2 := [(2, .int (v2 + 1)), (0, .ref v0), (1, .int v1)]) hM d_Se_begin_43 (j := 2) rfl rfl (Nat.le_of_ble_eq_true rfl) rfl ?_
    refine x_goto (tgt := 31) hM d_Se_begin_46 (by decide) ?_
    refine x_sub [1, 2, 0] rfl ?_
    exact F
theorem d_Se_visit_0 : decode b_Se_visit 0 = .ok (.aload_n 0, 1) := by decide +kernel
theorem d_Se_visit_1 : decode b_Se_visit 1 = .ok (.getfield 9, 3) := by decide +kernel
theorem d_Se_visit_4 : decode b_Se_visit 4 = .ok (.iload_n 3, 1) := by decide +kernel
theorem d_Se_visit_5 : decode b_Se_visit 5 = .ok (.baload, 1) := by decide +kernel
theorem d_Se_visit_6 : decode b_Se_visit 6 = .ok (.ifCond .eq 5, 3) := by decide +kernel
theorem d_Se_visit_9 : decode b_Se_visit 9 = .ok (.iconst 0, 1) := by decide +kernel
theorem d_Se_visit_10 : decode b_Se_visit 10 = .ok (.ireturn, 1) := by decide +kernel
theorem d_Se_visit_11 : decode b_Se_visit 11 = .ok (.aload_n 0, 1) := by decide +kernel
theorem d_Se_visit_12 : decode b_Se_visit 12 = .ok (.getfield 9, 3) := by decide +kernel
theorem d_Se_visit_15 : decode b_Se_visit 15 = .ok (.iload_n 3, 1) := by decide +kernel
theorem d_Se_visit_16 : decode b_Se_visit 16 = .ok (.iconst 1, 1) := by decide +kernel
theorem d_Se_visit_17 : decode b_Se_visit 17 = .ok (.bastore, 1) := by decide +kernel
theorem d_Se_visit_18 : decode b_Se_visit 18 = .ok (.aload_n 0, 1) := by decide +kernel
theorem d_Se_visit_19 : decode b_Se_visit 19 = .ok (.getfield 23, 3) := by decide +kernel
theorem d_Se_visit_22 : decode b_Se_visit 22 = .ok (.iconst (-1), 1) := by decide +kernel
theorem d_Se_visit_23 : decode b_Se_visit 23 = .ok (.if_icmp .eq 25, 3) := by decide +kernel
theorem d_Se_visit_26 : decode b_Se_visit 26 = .ok (.aload_n 1, 1) := by decide +kernel
theorem d_Se_visit_27 : decode b_Se_visit 27 = .ok (.getfield 75, 3) := by decide +kernel
theorem d_Se_visit_30 : decode b_Se_visit 30 = .ok (.iload_n 3, 1) := by decide +kernel
theorem d_Se_visit_31 : decode b_Se_visit 31 = .ok (.iaload, 1) := by decide +kernel
theorem d_Se_visit_32 : decode b_Se_visit 32 = .ok (.aload_n 0, 1) := by decide +kernel
theorem d_Se_visit_33 : decode b_Se_visit 33 = .ok (.getfield 23, 3) := by decide +kernel
theorem d_Se_visit_36 : decode b_Se_visit 36 = .ok (.invokestatic 78, 3) := by decide +kernel
theorem d_Se_visit_39 : decode b_Se_visit 39 = .ok (.aload_n 0, 1) := by decide +kernel
theorem d_Se_visit_40 : decode b_Se_visit 40 = .ok (.getfield 26, 3) := by decide +kernel
theorem d_Se_visit_43 : decode b_Se_visit 43 = .ok (.if_icmp .ne 5, 3) := by decide +kernel
theorem d_Se_visit_46 : decode b_Se_visit 46 = .ok (.iconst 0, 1) := by decide +kernel
theorem d_Se_visit_47 : decode b_Se_visit 47 = .ok (.ireturn, 1) := by decide +kernel
theorem d_Se_visit_48 : decode b_Se_visit 48 = .ok (.aload_n 0, 1) := by decide +kernel
theorem d_Se_visit_49 : decode b_Se_visit 49 = .ok (.getfield 15, 3) := by decide +kernel
theorem d_Se_visit_52 : decode b_Se_visit 52 = .ok (.aload_n 0, 1) := by decide +kernel
theorem d_Se_visit_53 : decode b_Se_visit 53 = .ok (.getfield 19, 3) := by decide +kernel
theorem d_Se_visit_56 : decode b_Se_visit 56 = .ok (.iload_n 3, 1) := by decide +kernel
theorem d_Se_visit_57 : decode b_Se_visit 57 = .ok (.iastore, 1) := by decide +kernel
theorem d_Se_visit_58 : decode b_Se_visit 58 = .ok (.aload_n 0, 1) := by decide +kernel
theorem d_Se_visit_59 : decode b_Se_visit 59 = .ok (.dup, 1) := by decide +kernel
theorem d_Se_visit_60 : decode b_Se_visit 60 = .ok (.getfield 19, 3) := by decide +kernel
theorem d_Se_visit_63 : decode b_Se_visit 63 = .ok (.iconst 1, 1) := by decide +kernel
theorem d_Se_visit_64 : decode b_Se_visit 64 = .ok (.iadd, 1) := by decide +kernel
theorem d_Se_visit_65 : decode b_Se_visit 65 = .ok (.putfield 19, 3) := by decide +kernel
theorem d_Se_visit_68 : decode b_Se_visit 68 = .ok (.aload_n 2, 1) := by decide +kernel
theorem d_Se_visit_69 : decode b_Se_visit 69 = .ok (.iload_n 3, 1) := by decide +kernel
theorem d_Se_visit_70 : decode b_Se_visit 70 = .ok (.baload, 1) := by decide +kernel
theorem d_Se_visit_71 : decode b_Se_visit 71 = .ok (.ireturn, 1) := by decide +kernel
set_option maxRecDepth 100000 in
set_option maxHeartbeats 4000000 in
theorem S_Se_visit_0 {G : Gc} {M : Mc} {Q : State → Prop} {K : Option Value → Hp → Prop} (hG : gok G) (hM : mok G M r_Se_visit Q K) (v0 : Nat) (v1 : Nat) (v2 : Nat) (v3 : Int32) (h : Hp) (F : kT h v0 = 11 ∧ kR h v0 0 = some (rf h v0 0) ∧ (kT h (rf h v0 0) = 51 ∧ vp_in v3 (kN h (rf h v0 0)) ∧ (((kI h (rf h v0 0) (Int32.toNatClampNeg v3)) = 0 → (kT h v0 = 11 ∧ kR h v0 0 = some (rf h v0 0) ∧ (kT h (rf h v0 0) = 51 ∧ vp_in v3 (kN h (rf h v0 0)) ∧ (∀ h1 : Hp, h1 = wI h (rf h v0 0) (Int32.toNatClampNeg v3) 1 → (kT h1 v0 = 11 ∧ (((kI h1 v0 3) = (-1) → (kT h1 v0 = 11 ∧ kR h1 v0 1 = some (rf h1 v0 1) ∧ (kT h1 v0 = 11 ∧ (kT h1 (rf h1 v0 1) = 50 ∧ vp_in (kI h1 v0 2) (kN h1 (rf h1 v0 1)) ∧ (∀ h2 : Hp, h2 = wI h1 (rf h1 v0 1) (Int32.toNatClampNeg (kI h1 v0 2)) v3 → (kT h2 v0 = 11 ∧ (kT h2 v0 = 11 ∧ (∀ h3 : Hp, h3 = wI h2 v0 2 ((kI h2 v0 2) + 1) → (kT h3 v2 = 51 ∧ vp_in v3 (kN h3 v2) ∧ (nb (kI h3 v2 (Int32.toNatClampNeg v3)) ∧ K (some (.int (kI h3 v2 (Int32.toNatClampNeg v3)))) h3)))))))))) ∧ (¬ (kI h1 v0 3) = (-1) → (kT h1 v1 = 2 ∧ kR h1 v1 6 = some (rf h1 v1 6) ∧ (kT h1 (rf h1 v1 6) = 50 ∧ vp_in v3 (kN h1 (rf h1 v1 6)) ∧ (kT h1 v0 = 11 ∧ (sem G r_WP_valueIn [.int (kI h1 (rf h1 v1 6) (Int32.toNatClampNeg v3)), .int (kI h1 v0 3)] h1 (fun u14 h13 => ∃ x15 : Int32, u14 = some (.int x15) ∧ (kT h13 v0 = 11 ∧ ((x15 = (kI h13 v0 4) → K (some (.int 0)) h13) ∧ (¬ x15 = (kI h13 v0 4) → (kT h13 v0 = 11 ∧ kR h13 v0 1 = some (rf h13 v0 1) ∧ (kT h13 v0 = 11 ∧ (kT h13 (rf h13 v0 1) = 50 ∧ vp_in (kI h13 v0 2) (kN h13 (rf h13 v0 1)) ∧ (∀ h16 : Hp, h16 = wI h13 (rf h13 v0 1) (Int32.toNatClampNeg (kI h13 v0 2)) v3 → (kT h16 v0 = 11 ∧ (kT h16 v0 = 11 ∧ (∀ h17 : Hp, h17 = wI h16 v0 2 ((kI h16 v0 2) + 1) → (kT h17 v2 = 51 ∧ vp_in v3 (kN h17 v2) ∧ (nb (kI h17 v2 (Int32.toNatClampNeg v3)) ∧ K (some (.int (kI h17 v2 (Int32.toNatClampNeg v3)))) h17)))))))))))))))))))))))) ∧ (¬ (kI h (rf h v0 0) (Int32.toNatClampNeg v3)) = 0 → K (some (.int 0)) h)))) : X G M Q 0 [(0, .ref v0), (1, .ref v1), (2, .ref v2), (3, .int v3)] [] h := by
  refine x_aload_n hM d_Se_visit_0 rfl 0 rfl ?_
  obtain ⟨c43, F⟩ := F
  obtain ⟨c44, F⟩ := F
  refine x_getr hG hM ck_Se 0 (Nat.le_of_ble_eq_true rfl) rfl rfl w_386 rfl d_Se_visit_1 c43 c44 ?_
  refine x_iload_n hM d_Se_visit_4 rfl 3 rfl ?_
  obtain ⟨c41, F⟩ := F
  obtain ⟨c42, F⟩ := F
  refine x_zaload hG hM d_Se_visit_5 c41 c42 ?_
  refine x_if_eq (tgt := 11) hM d_Se_visit_6 (by decide) (fun q40 => ?_) (fun q40 => ?_)
  · replace F := F.1 q40
    refine x_aload_n hM d_Se_visit_11 rfl 0 rfl ?_
    obtain ⟨c38, F⟩ := F
    obtain ⟨c39, F⟩ := F
    refine x_getr hG hM ck_Se 0 (Nat.le_of_ble_eq_true rfl) rfl rfl w_386 rfl d_Se_visit_12 c38 c39 ?_
    refine x_iload_n hM d_Se_visit_15 rfl 3 rfl ?_
    refine x_iconst (v := 1) hM d_Se_visit_16 (by decide) ?_
    obtain ⟨c36, F⟩ := F
    obtain ⟨c37, F⟩ := F
    obtain ⟨h1, eh1⟩ : ∃ z : Hp, z = wI h (rf h v0 0) (Int32.toNatClampNeg v3) 1 := ⟨_, rfl⟩
    replace F := F h1 eh1
    refine x_zastore hG hM d_Se_visit_17 c36 c37 (Or.inr rfl) ?_
    rw [← eh1]
    clear eh1
    refine x_aload_n hM d_Se_visit_18 rfl 0 rfl ?_
    obtain ⟨c35, F⟩ := F
    refine x_geti hG hM ck_Se 3 (Nat.le_of_ble_eq_true rfl) rfl rfl w_389 rfl d_Se_visit_19 c35 ?_
    refine x_iconst (v := (-1)) hM d_Se_visit_22 (by decide) ?_
    refine x_icmp_eq (tgt := 48) hM d_Se_visit_23 (by decide) (fun q34 => ?_) (fun q34 => ?_)
    · replace F := F.1 q34
      refine x_aload_n hM d_Se_visit_48 rfl 0 rfl ?_
      obtain ⟨c11, F⟩ := F
      obtain ⟨c12, F⟩ := F
      refine x_getr hG hM ck_Se 1 (Nat.le_of_ble_eq_true rfl) rfl rfl w_387 rfl d_Se_visit_49 c11 c12 ?_
      refine x_aload_n hM d_Se_visit_52 rfl 0 rfl ?_
      obtain ⟨c10, F⟩ := F
      refine x_geti hG hM ck_Se 2 (Nat.le_of_ble_eq_true rfl) rfl rfl w_388 rfl d_Se_visit_53 c10 ?_
      refine x_iload_n hM d_Se_visit_56 rfl 3 rfl ?_
      obtain ⟨c8, F⟩ := F
      obtain ⟨c9, F⟩ := F
      obtain ⟨h2, eh2⟩ : ∃ z : Hp, z = wI h1 (rf h1 v0 1) (Int32.toNatClampNeg (kI h1 v0 2)) v3 := ⟨_, rfl⟩
      replace F := F h2 eh2
      refine x_iastore hG hM d_Se_visit_57 c8 c9 ?_
      rw [← eh2]
      clear eh2
      refine x_aload_n hM d_Se_visit_58 rfl 0 rfl ?_
      refine x_dup hM d_Se_visit_59 rfl ?_
      obtain ⟨c7, F⟩ := F
      refine x_geti hG hM ck_Se 2 (Nat.le_of_ble_eq_true rfl) rfl rfl w_388 rfl d_Se_visit_60 c7 ?_
      refine x_iconst (v := 1) hM d_Se_visit_63 (by decide) ?_
      refine x_iadd hM d_Se_visit_64 ?_
      obtain ⟨c6, F⟩ := F
      obtain ⟨h3, eh3⟩ : ∃ z : Hp, z = wI h2 v0 2 ((kI h2 v0 2) + 1) := ⟨_, rfl⟩
      replace F := F h3 eh3
      refine x_puti hG hM ck_Se 2 (Nat.le_of_ble_eq_true rfl) rfl rfl w_388 rfl d_Se_visit_65 (Or.inl rfl) c6 ?_
      rw [← eh3]
      clear eh3
      refine x_aload_n hM d_Se_visit_68 rfl 2 rfl ?_
      refine x_iload_n hM d_Se_visit_69 rfl 3 rfl ?_
      obtain ⟨c4, F⟩ := F
      obtain ⟨c5, F⟩ := F
      refine x_zaload hG hM d_Se_visit_70 c4 c5 ?_
      exact x_zreturn hM d_Se_visit_71 rfl F.1 F.2
    · replace F := F.2 q34
      refine x_aload_n hM d_Se_visit_26 rfl 1 rfl ?_
      obtain ⟨c32, F⟩ := F
      obtain ⟨c33, F⟩ := F
      refine x_getr hG hM ck_Wo 6 (Nat.le_of_ble_eq_true rfl) rfl rfl w_152 rfl d_Se_visit_27 c32 c33 ?_
      refine x_iload_n hM d_Se_visit_30 rfl 3 rfl ?_
      obtain ⟨c30, F⟩ := F
      obtain ⟨c31, F⟩ := F
      refine x_iaload hG hM d_Se_visit_31 c30 c31 ?_
      refine x_aload_n hM d_Se_visit_32 rfl 0 rfl ?_
      obtain ⟨c29, F⟩ := F
      refine x_geti hG hM ck_Se 3 (Nat.le_of_ble_eq_true rfl) rfl rfl w_389 rfl d_Se_visit_33 c29 ?_
      refine x_callSN hG hM (r' := r_WP_valueIn) [.int (kI h1 (rf h1 v1 6) (Int32.toNatClampNeg v3)), .int (kI h1 v0 3)] rfl yk_WP_valueIn ⟨Nat.le_of_ble_eq_true rfl, Nat.le_of_ble_eq_true rfl⟩ w_827 w_558 rfl rfl (Nat.le_of_ble_eq_true rfl) d_Se_visit_36 (sem_mono F ?_)
      intro u14 h13 F
      obtain ⟨x15, rfl, F⟩ := F
      refine x_aload_n hM d_Se_visit_39 rfl 0 rfl ?_
      obtain ⟨c28, F⟩ := F
      refine x_geti hG hM ck_Se 4 (Nat.le_of_ble_eq_true rfl) rfl rfl w_390 rfl d_Se_visit_40 c28 ?_
      refine x_icmp_ne (tgt := 48) hM d_Se_visit_43 (by decide) (fun q27 => ?_) (fun q27 => ?_)
      · replace F := F.2 q27
        refine x_aload_n hM d_Se_visit_48 rfl 0 rfl ?_
        obtain ⟨c25, F⟩ := F
        obtain ⟨c26, F⟩ := F
        refine x_getr hG hM ck_Se 1 (Nat.le_of_ble_eq_true rfl) rfl rfl w_387 rfl d_Se_visit_49 c25 c26 ?_
        refine x_aload_n hM d_Se_visit_52 rfl 0 rfl ?_
        obtain ⟨c24, F⟩ := F
        refine x_geti hG hM ck_Se 2 (Nat.le_of_ble_eq_true rfl) rfl rfl w_388 rfl d_Se_visit_53 c24 ?_
        refine x_iload_n hM d_Se_visit_56 rfl 3 rfl ?_
        obtain ⟨c22, F⟩ := F
        obtain ⟨c23, F⟩ := F
        obtain ⟨h16, eh16⟩ : ∃ z : Hp, z = wI h13 (rf h13 v0 1) (Int32.toNatClampNeg (kI h13 v0 2)) v3 := ⟨_, rfl⟩
        replace F := F h16 eh16
        refine x_iastore hG hM d_Se_visit_57 c22 c23 ?_
        rw [← eh16]
        clear eh16
        refine x_aload_n hM d_Se_visit_58 rfl 0 rfl ?_
        refine x_dup hM d_Se_visit_59 rfl ?_
        obtain ⟨c21, F⟩ := F
        refine x_geti hG hM ck_Se 2 (Nat.le_of_ble_eq_true rfl) rfl rfl w_388 rfl d_Se_visit_60 c21 ?_
        refine x_iconst (v := 1) hM d_Se_visit_63 (by decide) ?_
        refine x_iadd hM d_Se_visit_64 ?_
        obtain ⟨c20, F⟩ := F
        obtain ⟨h17, eh17⟩ : ∃ z : Hp, z = wI h16 v0 2 ((kI h16 v0 2) + 1) := ⟨_, rfl⟩
        replace F := F h17 eh17
        refine x_puti hG hM ck_Se 2 (Nat.le_of_ble_eq_true rfl) rfl rfl w_388 rfl d_Se_visit_65 (Or.inl rfl) c20 ?_
        rw [← eh17]
        clear eh17
        refine x_aload_n hM d_Se_visit_68 rfl 2 rfl ?_
        refine x_iload_n hM d_Se_visit_69 rfl 3 rfl ?_
        obtain ⟨c18, F⟩ := F
        obtain ⟨c19, F⟩ := F
        refine x_zaload hG hM d_Se_visit_70 c18 c19 ?_
        exact x_zreturn hM d_Se_visit_71 rfl F.1 F.2
      · replace F := F.1 q27
        refine x_iconst (v := 0) hM d_Se_visit_46 (by decide) ?_
        exact x_zreturn hM d_Se_visit_47 rfl (Or.inl rfl) F
  · replace F := F.2 q40
    refine x_iconst (v := 0) hM d_Se_visit_9 (by decide) ?_
    exact x_zreturn hM d_Se_visit_10 rfl (Or.inl rfl) F
