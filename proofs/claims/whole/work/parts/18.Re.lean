theorem d_Re_init_0 : decode b_Re_init 0 = .ok (.aload_n 0, 1) := by decide +kernel
theorem d_Re_init_1 : decode b_Re_init 1 = .ok (.invokespecial 3, 3) := by decide +kernel
theorem d_Re_init_4 : decode b_Re_init 4 = .ok (.aload_n 0, 1) := by decide +kernel
theorem d_Re_init_5 : decode b_Re_init 5 = .ok (.iconst 0, 1) := by decide +kernel
theorem d_Re_init_6 : decode b_Re_init 6 = .ok (.newarray .int, 2) := by decide +kernel
theorem d_Re_init_8 : decode b_Re_init 8 = .ok (.putfield 9, 3) := by decide +kernel
theorem d_Re_init_11 : decode b_Re_init 11 = .ok (.aload_n 0, 1) := by decide +kernel
theorem d_Re_init_12 : decode b_Re_init 12 = .ok (.iconst 0, 1) := by decide +kernel
theorem d_Re_init_13 : decode b_Re_init 13 = .ok (.newarray .long, 2) := by decide +kernel
theorem d_Re_init_15 : decode b_Re_init 15 = .ok (.putfield 15, 3) := by decide +kernel
theorem d_Re_init_18 : decode b_Re_init 18 = .ok (.aload_n 0, 1) := by decide +kernel
theorem d_Re_init_19 : decode b_Re_init 19 = .ok (.iconst 0, 1) := by decide +kernel
theorem d_Re_init_20 : decode b_Re_init 20 = .ok (.newarray .int, 2) := by decide +kernel
theorem d_Re_init_22 : decode b_Re_init 22 = .ok (.putfield 19, 3) := by decide +kernel
theorem d_Re_init_25 : decode b_Re_init 25 = .ok (.aload_n 0, 1) := by decide +kernel
theorem d_Re_init_26 : decode b_Re_init 26 = .ok (.iconst 0, 1) := by decide +kernel
theorem d_Re_init_27 : decode b_Re_init 27 = .ok (.putfield 22, 3) := by decide +kernel
theorem d_Re_init_30 : decode b_Re_init 30 = .ok (.aload_n 0, 1) := by decide +kernel
theorem d_Re_init_31 : decode b_Re_init 31 = .ok (.lconst 0, 1) := by decide +kernel
theorem d_Re_init_32 : decode b_Re_init 32 = .ok (.putfield 26, 3) := by decide +kernel
theorem d_Re_init_35 : decode b_Re_init 35 = .ok (.return_, 1) := by decide +kernel
set_option maxRecDepth 100000 in
set_option maxHeartbeats 4000000 in
theorem S_Re_init_0 {G : Gc} {M : Mc} {Q : State → Prop} {K : Option Value → Hp → Prop} (hG : gok G) (hM : mok G M r_Re_init Q K) (v0 : Nat) (h : Hp) (F : kX h + 1 ≤ gB G + capC ∧ kS h + 0 ≤ capS ∧ (∀ h1 : Hp, h1 = wA h 50 0 0 → (kT h1 v0 = 8 ∧ (∀ h2 : Hp, h2 = wR h1 v0 0 (some (kX h)) → (kX h2 + 1 ≤ gB G + capC ∧ kS h2 + 0 ≤ capS ∧ (∀ h3 : Hp, h3 = wA h2 52 0 0 → (kT h3 v0 = 8 ∧ (∀ h4 : Hp, h4 = wR h3 v0 1 (some (kX h2)) → (kX h4 + 1 ≤ gB G + capC ∧ kS h4 + 0 ≤ capS ∧ (∀ h5 : Hp, h5 = wA h4 50 0 0 → (kT h5 v0 = 8 ∧ (∀ h6 : Hp, h6 = wR h5 v0 2 (some (kX h4)) → (kT h6 v0 = 8 ∧ (∀ h7 : Hp, h7 = wI h6 v0 3 0 → (kT h7 v0 = 8 ∧ (∀ h8 : Hp, h8 = wL h7 v0 4 0 → K none h8)))))))))))))))) : X G M Q 0 [(0, .ref v0)] [] h := by
  refine x_aload_n hM d_Re_init_0 rfl 0 rfl ?_
  refine x_objInit hG hM rfl w_255 w_22 w_objcode d_Re_init_1 (Nat.le_of_ble_eq_true rfl) (Nat.le_of_ble_eq_true rfl) (Nat.le_of_ble_eq_true rfl) ?_
  refine x_aload_n hM d_Re_init_4 rfl 0 rfl ?_
  refine x_iconst (v := 0) hM d_Re_init_5 (by decide) ?_
  obtain ⟨c18, F⟩ := F
  obtain ⟨c19, F⟩ := F
  obtain ⟨h1, eh1⟩ : ∃ z : Hp, z = wA h 50 0 0 := ⟨_, rfl⟩
  replace F := F h1 eh1
  refine x_newI hG hM (N := 0) w_63 d_Re_init_6 (by decide) rfl c18 c19 ?_
  rw [← eh1]
  clear eh1
  obtain ⟨c17, F⟩ := F
  obtain ⟨h2, eh2⟩ : ∃ z : Hp, z = wR h1 v0 0 (some (kX h)) := ⟨_, rfl⟩
  replace F := F h2 eh2
  refine x_putr hG hM ck_Re 0 (Nat.le_of_ble_eq_true rfl) (Or.inr ⟨_, rfl⟩) rfl w_256 rfl d_Re_init_8 (Or.inl rfl) c17 ?_
  rw [← eh2]
  clear eh2
  refine x_aload_n hM d_Re_init_11 rfl 0 rfl ?_
  refine x_iconst (v := 0) hM d_Re_init_12 (by decide) ?_
  obtain ⟨c15, F⟩ := F
  obtain ⟨c16, F⟩ := F
  obtain ⟨h3, eh3⟩ : ∃ z : Hp, z = wA h2 52 0 0 := ⟨_, rfl⟩
  replace F := F h3 eh3
  refine x_newL hG hM (N := 0) w_276 d_Re_init_13 (by decide) rfl c15 c16 ?_
  rw [← eh3]
  clear eh3
  obtain ⟨c14, F⟩ := F
  obtain ⟨h4, eh4⟩ : ∃ z : Hp, z = wR h3 v0 1 (some (kX h2)) := ⟨_, rfl⟩
  replace F := F h4 eh4
  refine x_putr hG hM ck_Re 1 (Nat.le_of_ble_eq_true rfl) (Or.inr ⟨_, rfl⟩) rfl w_258 rfl d_Re_init_15 (Or.inl rfl) c14 ?_
  rw [← eh4]
  clear eh4
  refine x_aload_n hM d_Re_init_18 rfl 0 rfl ?_
  refine x_iconst (v := 0) hM d_Re_init_19 (by decide) ?_
  obtain ⟨c12, F⟩ := F
  obtain ⟨c13, F⟩ := F
  obtain ⟨h5, eh5⟩ : ∃ z : Hp, z = wA h4 50 0 0 := ⟨_, rfl⟩
  replace F := F h5 eh5
  refine x_newI hG hM (N := 0) w_63 d_Re_init_20 (by decide) rfl c12 c13 ?_
  rw [← eh5]
  clear eh5
  obtain ⟨c11, F⟩ := F
  obtain ⟨h6, eh6⟩ : ∃ z : Hp, z = wR h5 v0 2 (some (kX h4)) := ⟨_, rfl⟩
  replace F := F h6 eh6
  refine x_putr hG hM ck_Re 2 (Nat.le_of_ble_eq_true rfl) (Or.inr ⟨_, rfl⟩) rfl w_260 rfl d_Re_init_22 (Or.inl rfl) c11 ?_
  rw [← eh6]
  clear eh6
  refine x_aload_n hM d_Re_init_25 rfl 0 rfl ?_
  refine x_iconst (v := 0) hM d_Re_init_26 (by decide) ?_
  obtain ⟨c10, F⟩ := F
  obtain ⟨h7, eh7⟩ : ∃ z : Hp, z = wI h6 v0 3 0 := ⟨_, rfl⟩
  replace F := F h7 eh7
  refine x_puti hG hM ck_Re 3 (Nat.le_of_ble_eq_true rfl) rfl rfl w_261 rfl d_Re_init_27 (Or.inl rfl) c10 ?_
  rw [← eh7]
  clear eh7
  refine x_aload_n hM d_Re_init_30 rfl 0 rfl ?_
  refine x_lconst (v := 0) hM d_Re_init_31 (by decide) ?_
  obtain ⟨c9, F⟩ := F
  obtain ⟨h8, eh8⟩ : ∃ z : Hp, z = wL h7 v0 4 0 := ⟨_, rfl⟩
  replace F := F h8 eh8
  refine x_putl hG hM ck_Re 4 (Nat.le_of_ble_eq_true rfl) rfl rfl w_263 rfl d_Re_init_32 (Or.inl rfl) c9 ?_
  rw [← eh8]
  clear eh8
  exact x_return hM d_Re_init_35 rfl F
theorem d_Re_spread_0 : decode b_Re_spread 0 = .ok (.aload_n 0, 1) := by decide +kernel
theorem d_Re_spread_1 : decode b_Re_spread 1 = .ok (.aload_n 0, 1) := by decide +kernel
theorem d_Re_spread_2 : decode b_Re_spread 2 = .ok (.getfield 9, 3) := by decide +kernel
theorem d_Re_spread_5 : decode b_Re_spread 5 = .ok (.aload_n 1, 1) := by decide +kernel
theorem d_Re_spread_6 : decode b_Re_spread 6 = .ok (.getfield 30, 3) := by decide +kernel
theorem d_Re_spread_9 : decode b_Re_spread 9 = .ok (.invokestatic 35, 3) := by decide +kernel
theorem d_Re_spread_12 : decode b_Re_spread 12 = .ok (.putfield 9, 3) := by decide +kernel
theorem d_Re_spread_15 : decode b_Re_spread 15 = .ok (.aload_n 0, 1) := by decide +kernel
theorem d_Re_spread_16 : decode b_Re_spread 16 = .ok (.aload_n 0, 1) := by decide +kernel
theorem d_Re_spread_17 : decode b_Re_spread 17 = .ok (.getfield 19, 3) := by decide +kernel
theorem d_Re_spread_20 : decode b_Re_spread 20 = .ok (.aload_n 1, 1) := by decide +kernel
theorem d_Re_spread_21 : decode b_Re_spread 21 = .ok (.getfield 30, 3) := by decide +kernel
theorem d_Re_spread_24 : decode b_Re_spread 24 = .ok (.invokestatic 35, 3) := by decide +kernel
theorem d_Re_spread_27 : decode b_Re_spread 27 = .ok (.putfield 19, 3) := by decide +kernel
theorem d_Re_spread_30 : decode b_Re_spread 30 = .ok (.aload_n 0, 1) := by decide +kernel
theorem d_Re_spread_31 : decode b_Re_spread 31 = .ok (.getfield 15, 3) := by decide +kernel
theorem d_Re_spread_34 : decode b_Re_spread 34 = .ok (.arraylength, 1) := by decide +kernel
theorem d_Re_spread_35 : decode b_Re_spread 35 = .ok (.aload_n 1, 1) := by decide +kernel
theorem d_Re_spread_36 : decode b_Re_spread 36 = .ok (.getfield 30, 3) := by decide +kernel
theorem d_Re_spread_39 : decode b_Re_spread 39 = .ok (.if_icmp .ge 16, 3) := by decide +kernel
theorem d_Re_spread_42 : decode b_Re_spread 42 = .ok (.aload_n 0, 1) := by decide +kernel
theorem d_Re_spread_43 : decode b_Re_spread 43 = .ok (.aload_n 1, 1) := by decide +kernel
theorem d_Re_spread_44 : decode b_Re_spread 44 = .ok (.getfield 30, 3) := by decide +kernel
theorem d_Re_spread_47 : decode b_Re_spread 47 = .ok (.invokestatic 39, 3) := by decide +kernel
theorem d_Re_spread_50 : decode b_Re_spread 50 = .ok (.newarray .long, 2) := by decide +kernel
theorem d_Re_spread_52 : decode b_Re_spread 52 = .ok (.putfield 15, 3) := by decide +kernel
theorem d_Re_spread_55 : decode b_Re_spread 55 = .ok (.aload_n 0, 1) := by decide +kernel
theorem d_Re_spread_56 : decode b_Re_spread 56 = .ok (.getfield 9, 3) := by decide +kernel
theorem d_Re_spread_59 : decode b_Re_spread 59 = .ok (.iconst 0, 1) := by decide +kernel
theorem d_Re_spread_60 : decode b_Re_spread 60 = .ok (.aload_n 1, 1) := by decide +kernel
theorem d_Re_spread_61 : decode b_Re_spread 61 = .ok (.getfield 30, 3) := by decide +kernel
theorem d_Re_spread_64 : decode b_Re_spread 64 = .ok (.iconst (-1), 1) := by decide +kernel
theorem d_Re_spread_65 : decode b_Re_spread 65 = .ok (.invokestatic 43, 3) := by decide +kernel
theorem d_Re_spread_68 : decode b_Re_spread 68 = .ok (.aload_n 0, 1) := by decide +kernel
theorem d_Re_spread_69 : decode b_Re_spread 69 = .ok (.getfield 9, 3) := by decide +kernel
theorem d_Re_spread_72 : decode b_Re_spread 72 = .ok (.iload_n 2, 1) := by decide +kernel
theorem d_Re_spread_73 : decode b_Re_spread 73 = .ok (.iconst 0, 1) := by decide +kernel
theorem d_Re_spread_74 : decode b_Re_spread 74 = .ok (.iastore, 1) := by decide +kernel
theorem d_Re_spread_75 : decode b_Re_spread 75 = .ok (.aload_n 0, 1) := by decide +kernel
theorem d_Re_spread_76 : decode b_Re_spread 76 = .ok (.getfield 15, 3) := by decide +kernel
theorem d_Re_spread_79 : decode b_Re_spread 79 = .ok (.iload_n 2, 1) := by decide +kernel
theorem d_Re_spread_80 : decode b_Re_spread 80 = .ok (.lconst 1, 1) := by decide +kernel
theorem d_Re_spread_81 : decode b_Re_spread 81 = .ok (.lastore, 1) := by decide +kernel
theorem d_Re_spread_82 : decode b_Re_spread 82 = .ok (.aload_n 0, 1) := by decide +kernel
theorem d_Re_spread_83 : decode b_Re_spread 83 = .ok (.getfield 19, 3) := by decide +kernel
theorem d_Re_spread_86 : decode b_Re_spread 86 = .ok (.iconst 0, 1) := by decide +kernel
theorem d_Re_spread_87 : decode b_Re_spread 87 = .ok (.iload_n 2, 1) := by decide +kernel
theorem d_Re_spread_88 : decode b_Re_spread 88 = .ok (.iastore, 1) := by decide +kernel
theorem d_Re_spread_89 : decode b_Re_spread 89 = .ok (.aload_n 0, 1) := by decide +kernel
theorem d_Re_spread_90 : decode b_Re_spread 90 = .ok (.iconst 1, 1) := by decide +kernel
theorem d_Re_spread_91 : decode b_Re_spread 91 = .ok (.putfield 22, 3) := by decide +kernel
theorem d_Re_spread_94 : decode b_Re_spread 94 = .ok (.iconst 0, 1) := by decide +kernel
theorem d_Re_spread_95 : decode b_Re_spread 95 = .ok (.istore_n 3, 1) := by decide +kernel
theorem d_Re_spread_96 : decode b_Re_spread 96 = .ok (.iload_n 3, 1) := by decide +kernel
theorem d_Re_spread_97 : decode b_Re_spread 97 = .ok (.aload_n 0, 1) := by decide +kernel
theorem d_Re_spread_98 : decode b_Re_spread 98 = .ok (.getfield 22, 3) := by decide +kernel
theorem d_Re_spread_101 : decode b_Re_spread 101 = .ok (.if_icmp .ge 71, 3) := by decide +kernel
theorem d_Re_spread_104 : decode b_Re_spread 104 = .ok (.iload_n 3, 1) := by decide +kernel
theorem d_Re_spread_105 : decode b_Re_spread 105 = .ok (.aload_n 1, 1) := by decide +kernel
theorem d_Re_spread_106 : decode b_Re_spread 106 = .ok (.getfield 30, 3) := by decide +kernel
theorem d_Re_spread_109 : decode b_Re_spread 109 = .ok (.if_icmp .ge 63, 3) := by decide +kernel
theorem d_Re_spread_112 : decode b_Re_spread 112 = .ok (.iconst 0, 1) := by decide +kernel
theorem d_Re_spread_113 : decode b_Re_spread 113 = .ok (.istore 4, 2) := by decide +kernel
theorem d_Re_spread_115 : decode b_Re_spread 115 = .ok (.iload 4, 2) := by decide +kernel
theorem d_Re_spread_117 : decode b_Re_spread 117 = .ok (.aload_n 1, 1) := by decide +kernel
theorem d_Re_spread_118 : decode b_Re_spread 118 = .ok (.getfield 49, 3) := by decide +kernel
theorem d_Re_spread_121 : decode b_Re_spread 121 = .ok (.if_icmp .ge 45, 3) := by decide +kernel
theorem d_Re_spread_124 : decode b_Re_spread 124 = .ok (.aload_n 1, 1) := by decide +kernel
theorem d_Re_spread_125 : decode b_Re_spread 125 = .ok (.getfield 52, 3) := by decide +kernel
theorem d_Re_spread_128 : decode b_Re_spread 128 = .ok (.iload 4, 2) := by decide +kernel
theorem d_Re_spread_130 : decode b_Re_spread 130 = .ok (.aaload, 1) := by decide +kernel
theorem d_Re_spread_131 : decode b_Re_spread 131 = .ok (.aload_n 0, 1) := by decide +kernel
theorem d_Re_spread_132 : decode b_Re_spread 132 = .ok (.getfield 19, 3) := by decide +kernel
theorem d_Re_spread_135 : decode b_Re_spread 135 = .ok (.iload_n 3, 1) := by decide +kernel
theorem d_Re_spread_136 : decode b_Re_spread 136 = .ok (.iaload, 1) := by decide +kernel
theorem d_Re_spread_137 : decode b_Re_spread 137 = .ok (.invokevirtual 56, 3) := by decide +kernel
theorem d_Re_spread_140 : decode b_Re_spread 140 = .ok (.ifCond .eq 20, 3) := by decide +kernel
theorem d_Re_spread_143 : decode b_Re_spread 143 = .ok (.aload_n 0, 1) := by decide +kernel
theorem d_Re_spread_144 : decode b_Re_spread 144 = .ok (.aload_n 1, 1) := by decide +kernel
theorem d_Re_spread_145 : decode b_Re_spread 145 = .ok (.getfield 52, 3) := by decide +kernel
theorem d_Re_spread_148 : decode b_Re_spread 148 = .ok (.iload 4, 2) := by decide +kernel
theorem d_Re_spread_150 : decode b_Re_spread 150 = .ok (.aaload, 1) := by decide +kernel
theorem d_Re_spread_151 : decode b_Re_spread 151 = .ok (.aload_n 0, 1) := by decide +kernel
theorem d_Re_spread_152 : decode b_Re_spread 152 = .ok (.getfield 19, 3) := by decide +kernel
theorem d_Re_spread_155 : decode b_Re_spread 155 = .ok (.iload_n 3, 1) := by decide +kernel
theorem d_Re_spread_156 : decode b_Re_spread 156 = .ok (.iaload, 1) := by decide +kernel
theorem d_Re_spread_157 : decode b_Re_spread 157 = .ok (.invokevirtual 62, 3) := by decide +kernel
theorem d_Re_spread_160 : decode b_Re_spread 160 = .ok (.iinc 4 1, 3) := by decide +kernel
theorem d_Re_spread_163 : decode b_Re_spread 163 = .ok (.goto (-48), 3) := by decide +kernel
theorem d_Re_spread_166 : decode b_Re_spread 166 = .ok (.iinc 3 1, 3) := by decide +kernel
theorem d_Re_spread_169 : decode b_Re_spread 169 = .ok (.goto (-73), 3) := by decide +kernel
theorem d_Re_spread_172 : decode b_Re_spread 172 = .ok (.return_, 1) := by decide +kernel
set_option maxRecDepth 100000 in
set_option maxHeartbeats 4000000 in
theorem S_Re_spread_0 {G : Gc} {M : Mc} {Q : State → Prop} {K : Option Value → Hp → Prop} (hG : gok G) (hM : mok G M r_Re_spread Q K) (v0 : Nat) (v1 : Nat) (v2 : Int32) (h : Hp) (F : kT h v0 = 8 ∧ kR h v0 0 = some (rf h v0 0) ∧ (kT h v1 = 2 ∧ (sem G r_WP_rowFor [.ref (rf h v0 0), .int (kI h v1 1)] h (fun u2 h1 => ∃ x3 : Nat, u2 = some (.ref x3) ∧ (kT h1 v0 = 8 ∧ (∀ h4 : Hp, h4 = wR h1 v0 0 (some x3) → (kT h4 v0 = 8 ∧ kR h4 v0 2 = some (rf h4 v0 2) ∧ (kT h4 v1 = 2 ∧ (sem G r_WP_rowFor [.ref (rf h4 v0 2), .int (kI h4 v1 1)] h4 (fun u6 h5 => ∃ x7 : Nat, u6 = some (.ref x7) ∧ (kT h5 v0 = 8 ∧ (∀ h8 : Hp, h8 = wR h5 v0 2 (some x7) → (kT h8 v0 = 8 ∧ kR h8 v0 1 = some (rf h8 v0 1) ∧ (kT h8 (rf h8 v0 1) = 52 ∧ (kT h8 v1 = 2 ∧ (((kI h8 v1 1) ≤ (nI (kN h8 (rf h8 v0 1))) → X G M Q 55 [(0, .ref v0), (1, .ref v1), (2, .int v2)] [] h8) ∧ (¬ (kI h8 v1 1) ≤ (nI (kN h8 (rf h8 v0 1))) → (kT h8 v1 = 2 ∧ (sem G r_WP_roomFor [.int (kI h8 v1 1)] h8 (fun u10 h9 => ∃ x11 : Int32, u10 = some (.int x11) ∧ (¬ x11 < 0 ∧ kX h9 + 1 ≤ gB G + capC ∧ kS h9 + (Int32.toNatClampNeg x11) ≤ capS ∧ (∀ h12 : Hp, h12 = wA h9 52 (Int32.toNatClampNeg x11) (Int32.toNatClampNeg x11) → (kT h12 v0 = 8 ∧ (∀ h13 : Hp, h13 = wR h12 v0 1 (some (kX h9)) → X G M Q 55 [(0, .ref v0), (1, .ref v1), (2, .int v2)] [] h13)))))))))))))))))))))))) : X G M Q 0 [(0, .ref v0), (1, .ref v1), (2, .int v2)] [] h := by
  refine x_aload_n hM d_Re_spread_0 rfl 0 rfl ?_
  refine x_aload_n hM d_Re_spread_1 rfl 0 rfl ?_
  obtain ⟨c30, F⟩ := F
  obtain ⟨c31, F⟩ := F
  refine x_getr hG hM ck_Re 0 (Nat.le_of_ble_eq_true rfl) rfl rfl w_256 rfl d_Re_spread_2 c30 c31 ?_
  refine x_aload_n hM d_Re_spread_5 rfl 1 rfl ?_
  obtain ⟨c29, F⟩ := F
  refine x_geti hG hM ck_Wo 1 (Nat.le_of_ble_eq_true rfl) rfl rfl w_127 rfl d_Re_spread_6 c29 ?_
  refine x_callSN hG hM (r' := r_WP_rowFor) [.ref (rf h v0 0), .int (kI h v1 1)] rfl yk_WP_rowFor ⟨Nat.le_of_ble_eq_true rfl, Nat.le_of_ble_eq_true rfl⟩ w_627 w_586 rfl rfl (Nat.le_of_ble_eq_true rfl) d_Re_spread_9 (sem_mono F ?_)
  intro u2 h1 F
  obtain ⟨x3, rfl, F⟩ := F
  obtain ⟨c28, F⟩ := F
  obtain ⟨h4, eh4⟩ : ∃ z : Hp, z = wR h1 v0 0 (some x3) := ⟨_, rfl⟩
  replace F := F h4 eh4
  refine x_putr hG hM ck_Re 0 (Nat.le_of_ble_eq_true rfl) (Or.inr ⟨_, rfl⟩) rfl w_256 rfl d_Re_spread_12 (Or.inl rfl) c28 ?_
  rw [← eh4]
  clear eh4
  refine x_aload_n hM d_Re_spread_15 rfl 0 rfl ?_
  refine x_aload_n hM d_Re_spread_16 rfl 0 rfl ?_
  obtain ⟨c26, F⟩ := F
  obtain ⟨c27, F⟩ := F
  refine x_getr hG hM ck_Re 2 (Nat.le_of_ble_eq_true rfl) rfl rfl w_260 rfl d_Re_spread_17 c26 c27 ?_
  refine x_aload_n hM d_Re_spread_20 rfl 1 rfl ?_
  obtain ⟨c25, F⟩ := F
  refine x_geti hG hM ck_Wo 1 (Nat.le_of_ble_eq_true rfl) rfl rfl w_127 rfl d_Re_spread_21 c25 ?_
  refine x_callSN hG hM (r' := r_WP_rowFor) [.ref (rf h4 v0 2), .int (kI h4 v1 1)] rfl yk_WP_rowFor ⟨Nat.le_of_ble_eq_true rfl, Nat.le_of_ble_eq_true rfl⟩ w_627 w_586 rfl rfl (Nat.le_of_ble_eq_true rfl) d_Re_spread_24 (sem_mono F ?_)
  intro u6 h5 F
  obtain ⟨x7, rfl, F⟩ := F
  obtain ⟨c24, F⟩ := F
  obtain ⟨h8, eh8⟩ : ∃ z : Hp, z = wR h5 v0 2 (some x7) := ⟨_, rfl⟩
  replace F := F h8 eh8
  refine x_putr hG hM ck_Re 2 (Nat.le_of_ble_eq_true rfl) (Or.inr ⟨_, rfl⟩) rfl w_260 rfl d_Re_spread_27 (Or.inl rfl) c24 ?_
  rw [← eh8]
  clear eh8
  refine x_aload_n hM d_Re_spread_30 rfl 0 rfl ?_
  obtain ⟨c22, F⟩ := F
  obtain ⟨c23, F⟩ := F
  refine x_getr hG hM ck_Re 1 (Nat.le_of_ble_eq_true rfl) rfl rfl w_258 rfl d_Re_spread_31 c22 c23 ?_
  obtain ⟨c21, F⟩ := F
  refine x_alen hG hM 52 rfl (Nat.le_of_ble_eq_true rfl) d_Re_spread_34 c21 ?_
  refine x_aload_n hM d_Re_spread_35 rfl 1 rfl ?_
  obtain ⟨c20, F⟩ := F
  refine x_geti hG hM ck_Wo 1 (Nat.le_of_ble_eq_true rfl) rfl rfl w_127 rfl d_Re_spread_36 c20 ?_
  refine x_icmp_ge (tgt := 55) hM d_Re_spread_39 (by decide) (fun q19 => ?_) (fun q19 => ?_)
  · replace F := F.1 q19
    exact F
  · replace F := F.2 q19
    refine x_aload_n hM d_Re_spread_42 rfl 0 rfl ?_
    refine x_aload_n hM d_Re_spread_43 rfl 1 rfl ?_
    obtain ⟨c18, F⟩ := F
    refine x_geti hG hM ck_Wo 1 (Nat.le_of_ble_eq_true rfl) rfl rfl w_127 rfl d_Re_spread_44 c18 ?_
    refine x_callSN hG hM (r' := r_WP_roomFor) [.int (kI h8 v1 1)] rfl yk_WP_roomFor ⟨Nat.le_of_ble_eq_true rfl, Nat.le_of_ble_eq_true rfl⟩ w_628 w_589 rfl rfl (Nat.le_of_ble_eq_true rfl) d_Re_spread_47 (sem_mono F ?_)
    intro u10 h9 F
    obtain ⟨x11, rfl, F⟩ := F
    obtain ⟨c15, F⟩ := F
    obtain ⟨c16, F⟩ := F
    obtain ⟨c17, F⟩ := F
    obtain ⟨h12, eh12⟩ : ∃ z : Hp, z = wA h9 52 (Int32.toNatClampNeg x11) (Int32.toNatClampNeg x11) := ⟨_, rfl⟩
    replace F := F h12 eh12
    refine x_newL hG hM (N := (Int32.toNatClampNeg x11)) w_276 d_Re_spread_50 c15 rfl c16 c17 ?_
    rw [← eh12]
    clear eh12
    obtain ⟨c14, F⟩ := F
    obtain ⟨h13, eh13⟩ : ∃ z : Hp, z = wR h12 v0 1 (some (kX h9)) := ⟨_, rfl⟩
    replace F := F h13 eh13
    refine x_putr hG hM ck_Re 1 (Nat.le_of_ble_eq_true rfl) (Or.inr ⟨_, rfl⟩) rfl w_258 rfl d_Re_spread_52 (Or.inl rfl) c14 ?_
    rw [← eh13]
    clear eh13
    exact F
set_option maxRecDepth 100000 in
set_option maxHeartbeats 4000000 in
theorem S_Re_spread_96 {G : Gc} {M : Mc} {Q : State → Prop} {K : Option Value → Hp → Prop} (hG : gok G) (hM : mok G M r_Re_spread Q K) (v0 : Nat) (v1 : Nat) (v3 : Int32) (h : Hp) (F : kT h v0 = 8 ∧ (((kI h v0 3) ≤ v3 → K none h) ∧ (¬ (kI h v0 3) ≤ v3 → (kT h v1 = 2 ∧ (((kI h v1 1) ≤ v3 → K none h) ∧ (¬ (kI h v1 1) ≤ v3 → X G M Q 115 [(0, .ref v0), (1, .ref v1), (3, .int v3), (4, .int 0)] [] h)))))) : X G M Q 96 [(0, .ref v0), (1, .ref v1), (3, .int v3)] [] h := by
  refine x_iload_n hM d_Re_spread_96 rfl 2 rfl ?_
  refine x_aload_n hM d_Re_spread_97 rfl 0 rfl ?_
  obtain ⟨c4, F⟩ := F
  refine x_geti hG hM ck_Re 3 (Nat.le_of_ble_eq_true rfl) rfl rfl w_261 rfl d_Re_spread_98 c4 ?_
  refine x_icmp_ge (tgt := 172) hM d_Re_spread_101 (by decide) (fun q3 => ?_) (fun q3 => ?_)
  · replace F := F.1 q3
    exact x_return hM d_Re_spread_172 rfl F
  · replace F := F.2 q3
    refine x_iload_n hM d_Re_spread_104 rfl 2 rfl ?_
    refine x_aload_n hM d_Re_spread_105 rfl 1 rfl ?_
    obtain ⟨c2, F⟩ := F
    refine x_geti hG hM ck_Wo 1 (Nat.le_of_ble_eq_true rfl) rfl rfl w_127 rfl d_Re_spread_106 c2 ?_
    refine x_icmp_ge (tgt := 172) hM d_Re_spread_109 (by decide) (fun q1 => ?_) (fun q1 => ?_)
    · replace F := F.1 q1
      exact x_return hM d_Re_spread_172 rfl F
    · replace F := F.2 q1
      refine x_iconst (v := 0) hM d_Re_spread_112 (by decide) ?_
      refine x_istore (lv2 := [(4, .int 0), (0, .ref v0), (1, .ref v1), (3, .int v3)]) hM d_Re_spread_113 (Nat.le_of_ble_eq_true rfl) rfl ?_
      refine x_sub [1, 2, 3, 0] rfl ?_
      exact F
set_option maxRecDepth 100000 in
set_option maxHeartbeats 4000000 in
theorem S_Re_spread_115 {G : Gc} {M : Mc} {Q : State → Prop} {K : Option Value → Hp → Prop} (hG : gok G) (hM : mok G M r_Re_spread Q K) (v0 : Nat) (v1 : Nat) (v3 : Int32) (v4 : Int32) (h : Hp) (F : kT h v1 = 2 ∧ (((kI h v1 2) ≤ v4 → X G M Q 96 [(0, .ref v0), (1, .ref v1), (3, .int (v3 + 1))] [] h) ∧ (¬ (kI h v1 2) ≤ v4 → (kT h v1 = 2 ∧ kR h v1 5 = some (rf h v1 5) ∧ (kT h (rf h v1 5) = 53 ∧ vp_in v4 (kN h (rf h v1 5)) ∧ kR h (rf h v1 5) (Int32.toNatClampNeg v4) = some (rf h (rf h v1 5) (Int32.toNatClampNeg v4)) ∧ (kT h v0 = 8 ∧ kR h v0 2 = some (rf h v0 2) ∧ (kT h (rf h v0 2) = 50 ∧ vp_in v3 (kN h (rf h v0 2)) ∧ (kT h (rf h (rf h v1 5) (Int32.toNatClampNeg v4)) = 3 ∧ sem G r_Ac_canBeDone [.ref (rf h (rf h v1 5) (Int32.toNatClampNeg v4)), .int (kI h (rf h v0 2) (Int32.toNatClampNeg v3))] h (fun u2 h1 => ∃ x3 : Int32, u2 = some (.int x3) ∧ ((x3 = 0 → X G M Q 115 [(0, .ref v0), (1, .ref v1), (3, .int v3), (4, .int (v4 + 1))] [] h1) ∧ (¬ x3 = 0 → (kT h1 v1 = 2 ∧ kR h1 v1 5 = some (rf h1 v1 5) ∧ (kT h1 (rf h1 v1 5) = 53 ∧ vp_in v4 (kN h1 (rf h1 v1 5)) ∧ kR h1 (rf h1 v1 5) (Int32.toNatClampNeg v4) = some (rf h1 (rf h1 v1 5) (Int32.toNatClampNeg v4)) ∧ (kT h1 v0 = 8 ∧ kR h1 v0 2 = some (rf h1 v0 2) ∧ (kT h1 (rf h1 v0 2) = 50 ∧ vp_in v3 (kN h1 (rf h1 v0 2)) ∧ (kT h1 v0 = 8 ∧ sem G r_Re_follow [.ref v0, .ref (rf h1 (rf h1 v1 5) (Int32.toNatClampNeg v4)), .int (kI h1 (rf h1 v0 2) (Int32.toNatClampNeg v3))] h1 (fun u5 h4 => u5 = none ∧ X G M Q 115 [(0, .ref v0), (1, .ref v1), (3, .int v3), (4, .int (v4 + 1))] [] h4))))))))))))))))) : X G M Q 115 [(0, .ref v0), (1, .ref v1), (3, .int v3), (4, .int v4)] [] h := by
  refine x_iload hM d_Re_spread_115 3 rfl ?_
  refine x_aload_n hM d_Re_spread_117 rfl 1 rfl ?_
  obtain ⟨c28, F⟩ := F
  refine x_geti hG hM ck_Wo 2 (Nat.le_of_ble_eq_true rfl) rfl rfl w_135 rfl d_Re_spread_118 c28 ?_
  refine x_icmp_ge (tgt := 166) hM d_Re_spread_121 (by decide) (fun q27 => ?_) (fun q27 => ?_)
  · replace F := F.1 q27
    refine x_iinc (v := (v3 + 1)) (lv2 := [(3, .int (v3 + 1)), (0, .ref v0), (1, .ref v1), (4, .int v4)]) hM d_Re_spread_166 (j := 2) rfl rfl (Nat.le_of_ble_eq_true rfl) rfl ?_
    refine x_goto (tgt := 96) hM d_Re_spread_169 (by decide) ?_
    refine x_sub [1, 2, 0] rfl ?_
    exact F
  · replace F := F.2 q27
    refine x_aload_n hM d_Re_spread_124 rfl 1 rfl ?_
    obtain ⟨c25, F⟩ := F
    obtain ⟨c26, F⟩ := F
    refine x_getr hG hM ck_Wo 5 (Nat.le_of_ble_eq_true rfl) rfl rfl w_145 rfl d_Re_spread_125 c25 c26 ?_
    refine x_iload hM d_Re_spread_128 3 rfl ?_
    obtain ⟨c22, F⟩ := F
    obtain ⟨c23, F⟩ := F
    obtain ⟨c24, F⟩ := F
    refine x_aaload hG hM 53 rfl (Nat.le_of_ble_eq_true rfl) d_Re_spread_130 c22 c23 c24 ?_
    refine x_aload_n hM d_Re_spread_131 rfl 0 rfl ?_
    obtain ⟨c20, F⟩ := F
    obtain ⟨c21, F⟩ := F
    refine x_getr hG hM ck_Re 2 (Nat.le_of_ble_eq_true rfl) rfl rfl w_260 rfl d_Re_spread_132 c20 c21 ?_
    refine x_iload_n hM d_Re_spread_135 rfl 2 rfl ?_
    obtain ⟨c18, F⟩ := F
    obtain ⟨c19, F⟩ := F
    refine x_iaload hG hM d_Re_spread_136 c18 c19 ?_
    obtain ⟨c17, F⟩ := F
    refine x_callV hG hM (r' := r_Ac_canBeDone) (ci := 2) [.int (kI h (rf h v0 2) (Int32.toNatClampNeg v3))] rfl rfl (Nat.le_of_ble_eq_true rfl) yk_Ac_canBeDone ⟨Nat.le_of_ble_eq_true rfl, Nat.le_of_ble_eq_true rfl⟩ w_630 w_631 w_632 rfl rfl (Nat.le_of_ble_eq_true rfl) d_Re_spread_137 c17 (sem_mono F ?_)
    intro u2 h1 F
    obtain ⟨x3, rfl, F⟩ := F
    refine x_if_eq (tgt := 160) hM d_Re_spread_140 (by decide) (fun q16 => ?_) (fun q16 => ?_)
    · replace F := F.1 q16
      refine x_iinc (v := (v4 + 1)) (lv2 := [(4, .int (v4 + 1)), (0, .ref v0), (1, .ref v1), (3, .int v3)]) hM d_Re_spread_160 (j := 3) rfl rfl (Nat.le_of_ble_eq_true rfl) rfl ?_
      refine x_goto (tgt := 115) hM d_Re_spread_163 (by decide) ?_
      refine x_sub [1, 2, 3, 0] rfl ?_
      exact F
    · replace F := F.2 q16
      refine x_aload_n hM d_Re_spread_143 rfl 0 rfl ?_
      refine x_aload_n hM d_Re_spread_144 rfl 1 rfl ?_
      obtain ⟨c14, F⟩ := F
      obtain ⟨c15, F⟩ := F
      refine x_getr hG hM ck_Wo 5 (Nat.le_of_ble_eq_true rfl) rfl rfl w_145 rfl d_Re_spread_145 c14 c15 ?_
      refine x_iload hM d_Re_spread_148 3 rfl ?_
      obtain ⟨c11, F⟩ := F
      obtain ⟨c12, F⟩ := F
      obtain ⟨c13, F⟩ := F
      refine x_aaload hG hM 53 rfl (Nat.le_of_ble_eq_true rfl) d_Re_spread_150 c11 c12 c13 ?_
      refine x_aload_n hM d_Re_spread_151 rfl 0 rfl ?_
      obtain ⟨c9, F⟩ := F
      obtain ⟨c10, F⟩ := F
      refine x_getr hG hM ck_Re 2 (Nat.le_of_ble_eq_true rfl) rfl rfl w_260 rfl d_Re_spread_152 c9 c10 ?_
      refine x_iload_n hM d_Re_spread_155 rfl 2 rfl ?_
      obtain ⟨c7, F⟩ := F
      obtain ⟨c8, F⟩ := F
      refine x_iaload hG hM d_Re_spread_156 c7 c8 ?_
      obtain ⟨c6, F⟩ := F
      refine x_callV hG hM (r' := r_Re_follow) (ci := 7) [.ref (rf h1 (rf h1 v1 5) (Int32.toNatClampNeg v4)), .int (kI h1 (rf h1 v0 2) (Int32.toNatClampNeg v3))] rfl rfl (Nat.le_of_ble_eq_true rfl) yk_Re_follow ⟨Nat.le_of_ble_eq_true rfl, Nat.le_of_ble_eq_true rfl⟩ w_634 w_636 ws_Re_follow rfl rfl (Nat.le_of_ble_eq_true rfl) d_Re_spread_157 c6 (sem_mono F ?_)
      intro u5 h4 F
      obtain ⟨rfl, F⟩ := F
      refine x_iinc (v := (v4 + 1)) (lv2 := [(4, .int (v4 + 1)), (0, .ref v0), (1, .ref v1), (3, .int v3)]) hM d_Re_spread_160 (j := 3) rfl rfl (Nat.le_of_ble_eq_true rfl) rfl ?_
      refine x_goto (tgt := 115) hM d_Re_spread_163 (by decide) ?_
      refine x_sub [1, 2, 3, 0] rfl ?_
      exact F
set_option maxRecDepth 100000 in
set_option maxHeartbeats 4000000 in
theorem S_Re_spread_55 {G : Gc} {M : Mc} {Q : State → Prop} {K : Option Value → Hp → Prop} (hG : gok G) (hM : mok G M r_Re_spread Q K) (v0 : Nat) (v1 : Nat) (v2 : Int32) (h : Hp) (F : kT h v0 = 8 ∧ kR h v0 0 = some (rf h v0 0) ∧ (kT h v1 = 2 ∧ (sem G r_Ar_fill [.ref (rf h v0 0), .int 0, .int (kI h v1 1), .int (-1)] h (fun u2 h1 => u2 = none ∧ (kT h1 v0 = 8 ∧ kR h1 v0 0 = some (rf h1 v0 0) ∧ (kT h1 (rf h1 v0 0) = 50 ∧ vp_in v2 (kN h1 (rf h1 v0 0)) ∧ (∀ h3 : Hp, h3 = wI h1 (rf h1 v0 0) (Int32.toNatClampNeg v2) 0 → (kT h3 v0 = 8 ∧ kR h3 v0 1 = some (rf h3 v0 1) ∧ (kT h3 (rf h3 v0 1) = 52 ∧ vp_in v2 (kN h3 (rf h3 v0 1)) ∧ (∀ h4 : Hp, h4 = wL h3 (rf h3 v0 1) (Int32.toNatClampNeg v2) 1 → (kT h4 v0 = 8 ∧ kR h4 v0 2 = some (rf h4 v0 2) ∧ (kT h4 (rf h4 v0 2) = 50 ∧ vp_in 0 (kN h4 (rf h4 v0 2)) ∧ (∀ h5 : Hp, h5 = wI h4 (rf h4 v0 2) (Int32.toNatClampNeg 0) v2 → (kT h5 v0 = 8 ∧ (∀ h6 : Hp, h6 = wI h5 v0 3 1 → X G M Q 96 [(0, .ref v0), (1, .ref v1), (3, .int 0)] [] h6))))))))))))))) : X G M Q 55 [(0, .ref v0), (1, .ref v1), (2, .int v2)] [] h := by
  refine x_aload_n hM d_Re_spread_55 rfl 0 rfl ?_
  obtain ⟨c21, F⟩ := F
  obtain ⟨c22, F⟩ := F
  refine x_getr hG hM ck_Re 0 (Nat.le_of_ble_eq_true rfl) rfl rfl w_256 rfl d_Re_spread_56 c21 c22 ?_
  refine x_iconst (v := 0) hM d_Re_spread_59 (by decide) ?_
  refine x_aload_n hM d_Re_spread_60 rfl 1 rfl ?_
  obtain ⟨c20, F⟩ := F
  refine x_geti hG hM ck_Wo 1 (Nat.le_of_ble_eq_true rfl) rfl rfl w_127 rfl d_Re_spread_61 c20 ?_
  refine x_iconst (v := (-1)) hM d_Re_spread_64 (by decide) ?_
  refine x_callS hG hM (r' := r_Ar_fill) [.ref (rf h v0 0), .int 0, .int (kI h v1 1), .int (-1)] rfl yk_Ar_fill ⟨Nat.le_of_ble_eq_true rfl, Nat.le_of_ble_eq_true rfl⟩ w_629 w_604 rfl rfl (Nat.le_of_ble_eq_true rfl) d_Re_spread_65 (sem_mono F ?_)
  intro u2 h1 F
  obtain ⟨rfl, F⟩ := F
  refine x_aload_n hM d_Re_spread_68 rfl 0 rfl ?_
  obtain ⟨c18, F⟩ := F
  obtain ⟨c19, F⟩ := F
  refine x_getr hG hM ck_Re 0 (Nat.le_of_ble_eq_true rfl) rfl rfl w_256 rfl d_Re_spread_69 c18 c19 ?_
  refine x_iload_n hM d_Re_spread_72 rfl 2 rfl ?_
  refine x_iconst (v := 0) hM d_Re_spread_73 (by decide) ?_
  obtain ⟨c16, F⟩ := F
  obtain ⟨c17, F⟩ := F
  obtain ⟨h3, eh3⟩ : ∃ z : Hp, z = wI h1 (rf h1 v0 0) (Int32.toNatClampNeg v2) 0 := ⟨_, rfl⟩
  replace F := F h3 eh3
  refine x_iastore hG hM d_Re_spread_74 c16 c17 ?_
  rw [← eh3]
  clear eh3
  refine x_aload_n hM d_Re_spread_75 rfl 0 rfl ?_
  obtain ⟨c14, F⟩ := F
  obtain ⟨c15, F⟩ := F
  refine x_getr hG hM ck_Re 1 (Nat.le_of_ble_eq_true rfl) rfl rfl w_258 rfl d_Re_spread_76 c14 c15 ?_
  refine x_iload_n hM d_Re_spread_79 rfl 2 rfl ?_
  refine x_lconst (v := 1) hM d_Re_spread_80 (by decide) ?_
  obtain ⟨c12, F⟩ := F
  obtain ⟨c13, F⟩ := F
  obtain ⟨h4, eh4⟩ : ∃ z : Hp, z = wL h3 (rf h3 v0 1) (Int32.toNatClampNeg v2) 1 := ⟨_, rfl⟩
  replace F := F h4 eh4
  refine x_lastore hG hM d_Re_spread_81 c12 c13 ?_
  rw [← eh4]
  clear eh4
  refine x_aload_n hM d_Re_spread_82 rfl 0 rfl ?_
  obtain ⟨c10, F⟩ := F
  obtain ⟨c11, F⟩ := F
  refine x_getr hG hM ck_Re 2 (Nat.le_of_ble_eq_true rfl) rfl rfl w_260 rfl d_Re_spread_83 c10 c11 ?_
  refine x_iconst (v := 0) hM d_Re_spread_86 (by decide) ?_
  refine x_iload_n hM d_Re_spread_87 rfl 2 rfl ?_
  obtain ⟨c8, F⟩ := F
  obtain ⟨c9, F⟩ := F
  obtain ⟨h5, eh5⟩ : ∃ z : Hp, z = wI h4 (rf h4 v0 2) (Int32.toNatClampNeg 0) v2 := ⟨_, rfl⟩
  replace F := F h5 eh5
  refine x_iastore hG hM d_Re_spread_88 c8 c9 ?_
  rw [← eh5]
  clear eh5
  refine x_aload_n hM d_Re_spread_89 rfl 0 rfl ?_
  refine x_iconst (v := 1) hM d_Re_spread_90 (by decide) ?_
  obtain ⟨c7, F⟩ := F
  obtain ⟨h6, eh6⟩ : ∃ z : Hp, z = wI h5 v0 3 1 := ⟨_, rfl⟩
  replace F := F h6 eh6
  refine x_puti hG hM ck_Re 3 (Nat.le_of_ble_eq_true rfl) rfl rfl w_261 rfl d_Re_spread_91 (Or.inl rfl) c7 ?_
  rw [← eh6]
  clear eh6
  refine x_iconst (v := 0) hM d_Re_spread_94 (by decide) ?_
  refine x_istore_n (lv2 := [(3, .int 0), (0, .ref v0), (1, .ref v1), (2, .int v2)]) hM d_Re_spread_95 rfl (Nat.le_of_ble_eq_true rfl) rfl ?_
  refine x_sub [1, 2, 0] rfl ?_
  exact F
theorem d_Re_follow_0 : decode b_Re_follow 0 = .ok (.iconst 0, 1) := by decide +kernel
theorem d_Re_follow_1 : decode b_Re_follow 1 = .ok (.istore_n 3, 1) := by decide +kernel
theorem d_Re_follow_2 : decode b_Re_follow 2 = .ok (.iload_n 3, 1) := by decide +kernel
theorem d_Re_follow_3 : decode b_Re_follow 3 = .ok (.aload_n 1, 1) := by decide +kernel
theorem d_Re_follow_4 : decode b_Re_follow 4 = .ok (.getfield 66, 3) := by decide +kernel
theorem d_Re_follow_7 : decode b_Re_follow 7 = .ok (.if_icmp .ge 111, 3) := by decide +kernel
theorem d_Re_follow_10 : decode b_Re_follow 10 = .ok (.aload_n 1, 1) := by decide +kernel
theorem d_Re_follow_11 : decode b_Re_follow 11 = .ok (.getfield 69, 3) := by decide +kernel
theorem d_Re_follow_14 : decode b_Re_follow 14 = .ok (.iload_n 3, 1) := by decide +kernel
theorem d_Re_follow_15 : decode b_Re_follow 15 = .ok (.aaload, 1) := by decide +kernel
theorem d_Re_follow_16 : decode b_Re_follow 16 = .ok (.getfield 73, 3) := by decide +kernel
theorem d_Re_follow_19 : decode b_Re_follow 19 = .ok (.iload_n 2, 1) := by decide +kernel
theorem d_Re_follow_20 : decode b_Re_follow 20 = .ok (.iaload, 1) := by decide +kernel
theorem d_Re_follow_21 : decode b_Re_follow 21 = .ok (.istore 4, 2) := by decide +kernel
theorem d_Re_follow_23 : decode b_Re_follow 23 = .ok (.aload_n 0, 1) := by decide +kernel
theorem d_Re_follow_24 : decode b_Re_follow 24 = .ok (.getfield 9, 3) := by decide +kernel
theorem d_Re_follow_27 : decode b_Re_follow 27 = .ok (.iload 4, 2) := by decide +kernel
theorem d_Re_follow_29 : decode b_Re_follow 29 = .ok (.iaload, 1) := by decide +kernel
theorem d_Re_follow_30 : decode b_Re_follow 30 = .ok (.iconst (-1), 1) := by decide +kernel
theorem d_Re_follow_31 : decode b_Re_follow 31 = .ok (.if_icmp .ne 47, 3) := by decide +kernel
theorem d_Re_follow_34 : decode b_Re_follow 34 = .ok (.aload_n 0, 1) := by decide +kernel
theorem d_Re_follow_35 : decode b_Re_follow 35 = .ok (.getfield 9, 3) := by decide +kernel
theorem d_Re_follow_38 : decode b_Re_follow 38 = .ok (.iload 4, 2) := by decide +kernel
theorem d_Re_follow_40 : decode b_Re_follow 40 = .ok (.aload_n 0, 1) := by decide +kernel
theorem d_Re_follow_41 : decode b_Re_follow 41 = .ok (.getfield 9, 3) := by decide +kernel
theorem d_Re_follow_44 : decode b_Re_follow 44 = .ok (.iload_n 2, 1) := by decide +kernel
theorem d_Re_follow_45 : decode b_Re_follow 45 = .ok (.iaload, 1) := by decide +kernel
theorem d_Re_follow_46 : decode b_Re_follow 46 = .ok (.iconst 1, 1) := by decide +kernel
theorem d_Re_follow_47 : decode b_Re_follow 47 = .ok (.iadd, 1) := by decide +kernel
theorem d_Re_follow_48 : decode b_Re_follow 48 = .ok (.iastore, 1) := by decide +kernel
theorem d_Re_follow_49 : decode b_Re_follow 49 = .ok (.aload_n 0, 1) := by decide +kernel
theorem d_Re_follow_50 : decode b_Re_follow 50 = .ok (.getfield 15, 3) := by decide +kernel
theorem d_Re_follow_53 : decode b_Re_follow 53 = .ok (.iload 4, 2) := by decide +kernel
theorem d_Re_follow_55 : decode b_Re_follow 55 = .ok (.lconst 0, 1) := by decide +kernel
theorem d_Re_follow_56 : decode b_Re_follow 56 = .ok (.lastore, 1) := by decide +kernel
theorem d_Re_follow_57 : decode b_Re_follow 57 = .ok (.aload_n 0, 1) := by decide +kernel
theorem d_Re_follow_58 : decode b_Re_follow 58 = .ok (.getfield 19, 3) := by decide +kernel
theorem d_Re_follow_61 : decode b_Re_follow 61 = .ok (.aload_n 0, 1) := by decide +kernel
theorem d_Re_follow_62 : decode b_Re_follow 62 = .ok (.getfield 22, 3) := by decide +kernel
theorem d_Re_follow_65 : decode b_Re_follow 65 = .ok (.iload 4, 2) := by decide +kernel
theorem d_Re_follow_67 : decode b_Re_follow 67 = .ok (.iastore, 1) := by decide +kernel
theorem d_Re_follow_68 : decode b_Re_follow 68 = .ok (.aload_n 0, 1) := by decide +kernel
theorem d_Re_follow_69 : decode b_Re_follow 69 = .ok (.dup, 1) := by decide +kernel
theorem d_Re_follow_70 : decode b_Re_follow 70 = .ok (.getfield 22, 3) := by decide +kernel
theorem d_Re_follow_73 : decode b_Re_follow 73 = .ok (.iconst 1, 1) := by decide +kernel
theorem d_Re_follow_74 : decode b_Re_follow 74 = .ok (.iadd, 1) := by decide +kernel
theorem d_Re_follow_75 : decode b_Re_follow 75 = .ok (.putfield 22, 3) := by decide +kernel
theorem d_Re_follow_78 : decode b_Re_follow 78 = .ok (.aload_n 0, 1) := by decide +kernel
theorem d_Re_follow_79 : decode b_Re_follow 79 = .ok (.getfield 9, 3) := by decide +kernel
theorem d_Re_follow_82 : decode b_Re_follow 82 = .ok (.iload 4, 2) := by decide +kernel
theorem d_Re_follow_84 : decode b_Re_follow 84 = .ok (.iaload, 1) := by decide +kernel
theorem d_Re_follow_85 : decode b_Re_follow 85 = .ok (.aload_n 0, 1) := by decide +kernel
theorem d_Re_follow_86 : decode b_Re_follow 86 = .ok (.getfield 9, 3) := by decide +kernel
theorem d_Re_follow_89 : decode b_Re_follow 89 = .ok (.iload_n 2, 1) := by decide +kernel
theorem d_Re_follow_90 : decode b_Re_follow 90 = .ok (.iaload, 1) := by decide +kernel
theorem d_Re_follow_91 : decode b_Re_follow 91 = .ok (.iconst 1, 1) := by decide +kernel
theorem d_Re_follow_92 : decode b_Re_follow 92 = .ok (.iadd, 1) := by decide +kernel
theorem d_Re_follow_93 : decode b_Re_follow 93 = .ok (.if_icmp .ne 19, 3) := by decide +kernel
theorem d_Re_follow_96 : decode b_Re_follow 96 = .ok (.aload_n 0, 1) := by decide +kernel
theorem d_Re_follow_97 : decode b_Re_follow 97 = .ok (.getfield 15, 3) := by decide +kernel
theorem d_Re_follow_100 : decode b_Re_follow 100 = .ok (.iload 4, 2) := by decide +kernel
theorem d_Re_follow_102 : decode b_Re_follow 102 = .ok (.dup2, 1) := by decide +kernel
theorem d_Re_follow_103 : decode b_Re_follow 103 = .ok (.laload, 1) := by decide +kernel
theorem d_Re_follow_104 : decode b_Re_follow 104 = .ok (.aload_n 0, 1) := by decide +kernel
theorem d_Re_follow_105 : decode b_Re_follow 105 = .ok (.getfield 15, 3) := by decide +kernel
theorem d_Re_follow_108 : decode b_Re_follow 108 = .ok (.iload_n 2, 1) := by decide +kernel
theorem d_Re_follow_109 : decode b_Re_follow 109 = .ok (.laload, 1) := by decide +kernel
theorem d_Re_follow_110 : decode b_Re_follow 110 = .ok (.ladd, 1) := by decide +kernel
theorem d_Re_follow_111 : decode b_Re_follow 111 = .ok (.lastore, 1) := by decide +kernel
theorem d_Re_follow_112 : decode b_Re_follow 112 = .ok (.iinc 3 1, 3) := by decide +kernel
theorem d_Re_follow_115 : decode b_Re_follow 115 = .ok (.goto (-113), 3) := by decide +kernel
theorem d_Re_follow_118 : decode b_Re_follow 118 = .ok (.return_, 1) := by decide +kernel
set_option maxRecDepth 100000 in
set_option maxHeartbeats 4000000 in
theorem S_Re_follow_0 {G : Gc} {M : Mc} {Q : State → Prop} {K : Option Value → Hp → Prop} (hG : gok G) (hM : mok G M r_Re_follow Q K) (v0 : Nat) (v1 : Nat) (v2 : Int32) (h : Hp) (F : X G M Q 2 [(0, .ref v0), (1, .ref v1), (2, .int v2), (3, .int 0)] [] h) : X G M Q 0 [(0, .ref v0), (1, .ref v1), (2, .int v2)] [] h := by
  refine x_iconst (v := 0) hM d_Re_follow_0 (by decide) ?_
  refine x_istore_n (lv2 := [(3, .int 0), (0, .ref v0), (1, .ref v1), (2, .int v2)]) hM d_Re_follow_1 rfl (Nat.le_of_ble_eq_true rfl) rfl ?_
  refine x_sub [1, 2, 3, 0] rfl ?_
  exact F
set_option maxRecDepth 100000 in
set_option maxHeartbeats 4000000 in
theorem S_Re_follow_2 {G : Gc} {M : Mc} {Q : State → Prop} {K : Option Value → Hp → Prop} (hG : gok G) (hM : mok G M r_Re_follow Q K) (v0 : Nat) (v1 : Nat) (v2 : Int32) (v3 : Int32) (h : Hp) (F : kT h v1 = 3 ∧ (((kI h v1 2) ≤ v3 → K none h) ∧ (¬ (kI h v1 2) ≤ v3 → (kT h v1 = 3 ∧ kR h v1 1 = some (rf h v1 1) ∧ (kT h (rf h v1 1) = 54 ∧ vp_in v3 (kN h (rf h v1 1)) ∧ kR h (rf h v1 1) (Int32.toNatClampNeg v3) = some (rf h (rf h v1 1) (Int32.toNatClampNeg v3)) ∧ (kT h (rf h (rf h v1 1) (Int32.toNatClampNeg v3)) = 4 ∧ kR h (rf h (rf h v1 1) (Int32.toNatClampNeg v3)) 1 = some (rf h (rf h (rf h v1 1) (Int32.toNatClampNeg v3)) 1) ∧ (kT h (rf h (rf h (rf h v1 1) (Int32.toNatClampNeg v3)) 1) = 50 ∧ vp_in v2 (kN h (rf h (rf h (rf h v1 1) (Int32.toNatClampNeg v3)) 1)) ∧ (kT h v0 = 8 ∧ kR h v0 0 = some (rf h v0 0) ∧ (kT h (rf h v0 0) = 50 ∧ vp_in (kI h (rf h (rf h (rf h v1 1) (Int32.toNatClampNeg v3)) 1) (Int32.toNatClampNeg v2)) (kN h (rf h v0 0)) ∧ (((kI h (rf h v0 0) (Int32.toNatClampNeg (kI h (rf h (rf h (rf h v1 1) (Int32.toNatClampNeg v3)) 1) (Int32.toNatClampNeg v2)))) = (-1) → (kT h v0 = 8 ∧ kR h v0 0 = some (rf h v0 0) ∧ (kT h v0 = 8 ∧ kR h v0 0 = some (rf h v0 0) ∧ (kT h (rf h v0 0) = 50 ∧ vp_in v2 (kN h (rf h v0 0)) ∧ (kT h (rf h v0 0) = 50 ∧ vp_in (kI h (rf h (rf h (rf h v1 1) (Int32.toNatClampNeg v3)) 1) (Int32.toNatClampNeg v2)) (kN h (rf h v0 0)) ∧ (∀ h1 : Hp, h1 = wI h (rf h v0 0) (Int32.toNatClampNeg (kI h (rf h (rf h (rf h v1 1) (Int32.toNatClampNeg v3)) 1) (Int32.toNatClampNeg v2))) ((kI h (rf h v0 0) (Int32.toNatClampNeg v2)) + 1) → (kT h1 v0 = 8 ∧ kR h1 v0 1 = some (rf h1 v0 1) ∧ (kT h1 (rf h1 v0 1) = 52 ∧ vp_in (kI h (rf h (rf h (rf h v1 1) (Int32.toNatClampNeg v3)) 1) (Int32.toNatClampNeg v2)) (kN h1 (rf h1 v0 1)) ∧ (∀ h2 : Hp, h2 = wL h1 (rf h1 v0 1) (Int32.toNatClampNeg (kI h (rf h (rf h (rf h v1 1) (Int32.toNatClampNeg v3)) 1) (Int32.toNatClampNeg v2))) 0 → (kT h2 v0 = 8 ∧ kR h2 v0 2 = some (rf h2 v0 2) ∧ (kT h2 v0 = 8 ∧ (kT h2 (rf h2 v0 2) = 50 ∧ vp_in (kI h2 v0 3) (kN h2 (rf h2 v0 2)) ∧ (∀ h3 : Hp, h3 = wI h2 (rf h2 v0 2) (Int32.toNatClampNeg (kI h2 v0 3)) (kI h (rf h (rf h (rf h v1 1) (Int32.toNatClampNeg v3)) 1) (Int32.toNatClampNeg v2)) → (kT h3 v0 = 8 ∧ (kT h3 v0 = 8 ∧ (∀ h4 : Hp, h4 = wI h3 v0 3 ((kI h3 v0 3) + 1) → X G M Q 78 [(0, .ref v0), (1, .ref v1), (2, .int v2), (3, .int v3), (4, .int (kI h (rf h (rf h (rf h v1 1) (Int32.toNatClampNeg v3)) 1) (Int32.toNatClampNeg v2)))] [] h4)))))))))))))))) ∧ (¬ (kI h (rf h v0 0) (Int32.toNatClampNeg (kI h (rf h (rf h (rf h v1 1) (Int32.toNatClampNeg v3)) 1) (Int32.toNatClampNeg v2)))) = (-1) → X G M Q 78 [(0, .ref v0), (1, .ref v1), (2, .int v2), (3, .int v3), (4, .int (kI h (rf h (rf h (rf h v1 1) (Int32.toNatClampNeg v3)) 1) (Int32.toNatClampNeg v2)))] [] h))))))))))) : X G M Q 2 [(0, .ref v0), (1, .ref v1), (2, .int v2), (3, .int v3)] [] h := by
  refine x_iload_n hM d_Re_follow_2 rfl 3 rfl ?_
  refine x_aload_n hM d_Re_follow_3 rfl 1 rfl ?_
  obtain ⟨c39, F⟩ := F
  refine x_geti hG hM ck_Ac 2 (Nat.le_of_ble_eq_true rfl) rfl rfl w_106 rfl d_Re_follow_4 c39 ?_
  refine x_icmp_ge (tgt := 118) hM d_Re_follow_7 (by decide) (fun q38 => ?_) (fun q38 => ?_)
  · replace F := F.1 q38
    exact x_return hM d_Re_follow_118 rfl F
  · replace F := F.2 q38
    refine x_aload_n hM d_Re_follow_10 rfl 1 rfl ?_
    obtain ⟨c36, F⟩ := F
    obtain ⟨c37, F⟩ := F
    refine x_getr hG hM ck_Ac 1 (Nat.le_of_ble_eq_true rfl) rfl rfl w_98 rfl d_Re_follow_11 c36 c37 ?_
    refine x_iload_n hM d_Re_follow_14 rfl 3 rfl ?_
    obtain ⟨c33, F⟩ := F
    obtain ⟨c34, F⟩ := F
    obtain ⟨c35, F⟩ := F
    refine x_aaload hG hM 54 rfl (Nat.le_of_ble_eq_true rfl) d_Re_follow_15 c33 c34 c35 ?_
    obtain ⟨c31, F⟩ := F
    obtain ⟨c32, F⟩ := F
    refine x_getr hG hM ck_Ou 1 (Nat.le_of_ble_eq_true rfl) rfl rfl w_78 rfl d_Re_follow_16 c31 c32 ?_
    refine x_iload_n hM d_Re_follow_19 rfl 2 rfl ?_
    obtain ⟨c29, F⟩ := F
    obtain ⟨c30, F⟩ := F
    refine x_iaload hG hM d_Re_follow_20 c29 c30 ?_
    refine x_istore (lv2 := [(4, .int (kI h (rf h (rf h (rf h v1 1) (Int32.toNatClampNeg v3)) 1) (Int32.toNatClampNeg v2))), (0, .ref v0), (1, .ref v1), (2, .int v2), (3, .int v3)]) hM d_Re_follow_21 (Nat.le_of_ble_eq_true rfl) rfl ?_
    refine x_aload_n hM d_Re_follow_23 rfl 1 rfl ?_
    obtain ⟨c27, F⟩ := F
    obtain ⟨c28, F⟩ := F
    refine x_getr hG hM ck_Re 0 (Nat.le_of_ble_eq_true rfl) rfl rfl w_256 rfl d_Re_follow_24 c27 c28 ?_
    refine x_iload hM d_Re_follow_27 0 rfl ?_
    obtain ⟨c25, F⟩ := F
    obtain ⟨c26, F⟩ := F
    refine x_iaload hG hM d_Re_follow_29 c25 c26 ?_
    refine x_iconst (v := (-1)) hM d_Re_follow_30 (by decide) ?_
    refine x_icmp_ne (tgt := 78) hM d_Re_follow_31 (by decide) (fun q24 => ?_) (fun q24 => ?_)
    · replace F := F.2 q24
      refine x_sub [1, 2, 3, 4, 0] rfl ?_
      exact F
    · replace F := F.1 q24
      refine x_aload_n hM d_Re_follow_34 rfl 1 rfl ?_
      obtain ⟨c22, F⟩ := F
      obtain ⟨c23, F⟩ := F
      refine x_getr hG hM ck_Re 0 (Nat.le_of_ble_eq_true rfl) rfl rfl w_256 rfl d_Re_follow_35 c22 c23 ?_
      refine x_iload hM d_Re_follow_38 0 rfl ?_
      refine x_aload_n hM d_Re_follow_40 rfl 1 rfl ?_
      obtain ⟨c20, F⟩ := F
      obtain ⟨c21, F⟩ := F
      refine x_getr hG hM ck_Re 0 (Nat.le_of_ble_eq_true rfl) rfl rfl w_256 rfl d_Re_follow_41 c20 c21 ?_
      refine x_iload_n hM d_Re_follow_44 rfl 3 rfl ?_
      obtain ⟨c18, F⟩ := F
      obtain ⟨c19, F⟩ := F
      refine x_iaload hG hM d_Re_follow_45 c18 c19 ?_
      refine x_iconst (v := 1) hM d_Re_follow_46 (by decide) ?_
      refine x_iadd hM d_Re_follow_47 ?_
      obtain ⟨c16, F⟩ := F
      obtain ⟨c17, F⟩ := F
      obtain ⟨h1, eh1⟩ : ∃ z : Hp, z = wI h (rf h v0 0) (Int32.toNatClampNeg (kI h (rf h (rf h (rf h v1 1) (Int32.toNatClampNeg v3)) 1) (Int32.toNatClampNeg v2))) ((kI h (rf h v0 0) (Int32.toNatClampNeg v2)) + 1) := ⟨_, rfl⟩
      replace F := F h1 eh1
      refine x_iastore hG hM d_Re_follow_48 c16 c17 ?_
      rw [← eh1]
      clear eh1
      refine x_aload_n hM d_Re_follow_49 rfl 1 rfl ?_
      obtain ⟨c14, F⟩ := F
      obtain ⟨c15, F⟩ := F
      refine x_getr hG hM ck_Re 1 (Nat.le_of_ble_eq_true rfl) rfl rfl w_258 rfl d_Re_follow_50 c14 c15 ?_
      refine x_iload hM d_Re_follow_53 0 rfl ?_
      refine x_lconst (v := 0) hM d_Re_follow_55 (by decide) ?_
      obtain ⟨c12, F⟩ := F
      obtain ⟨c13, F⟩ := F
      obtain ⟨h2, eh2⟩ : ∃ z : Hp, z = wL h1 (rf h1 v0 1) (Int32.toNatClampNeg (kI h (rf h (rf h (rf h v1 1) (Int32.toNatClampNeg v3)) 1) (Int32.toNatClampNeg v2))) 0 := ⟨_, rfl⟩
      replace F := F h2 eh2
      refine x_lastore hG hM d_Re_follow_56 c12 c13 ?_
      rw [← eh2]
      clear eh2
      refine x_aload_n hM d_Re_follow_57 rfl 1 rfl ?_
      obtain ⟨c10, F⟩ := F
      obtain ⟨c11, F⟩ := F
      refine x_getr hG hM ck_Re 2 (Nat.le_of_ble_eq_true rfl) rfl rfl w_260 rfl d_Re_follow_58 c10 c11 ?_
      refine x_aload_n hM d_Re_follow_61 rfl 1 rfl ?_
      obtain ⟨c9, F⟩ := F
      refine x_geti hG hM ck_Re 3 (Nat.le_of_ble_eq_true rfl) rfl rfl w_261 rfl d_Re_follow_62 c9 ?_
      refine x_iload hM d_Re_follow_65 0 rfl ?_
      obtain ⟨c7, F⟩ := F
      obtain ⟨c8, F⟩ := F
      obtain ⟨h3, eh3⟩ : ∃ z : Hp, z = wI h2 (rf h2 v0 2) (Int32.toNatClampNeg (kI h2 v0 3)) (kI h (rf h (rf h (rf h v1 1) (Int32.toNatClampNeg v3)) 1) (Int32.toNatClampNeg v2)) := ⟨_, rfl⟩
      replace F := F h3 eh3
      refine x_iastore hG hM d_Re_follow_67 c7 c8 ?_
      rw [← eh3]
      clear eh3
      refine x_aload_n hM d_Re_follow_68 rfl 1 rfl ?_
      refine x_dup hM d_Re_follow_69 rfl ?_
      obtain ⟨c6, F⟩ := F
      refine x_geti hG hM ck_Re 3 (Nat.le_of_ble_eq_true rfl) rfl rfl w_261 rfl d_Re_follow_70 c6 ?_
      refine x_iconst (v := 1) hM d_Re_follow_73 (by decide) ?_
      refine x_iadd hM d_Re_follow_74 ?_
      obtain ⟨c5, F⟩ := F
      obtain ⟨h4, eh4⟩ : ∃ z : Hp, z = wI h3 v0 3 ((kI h3 v0 3) + 1) := ⟨_, rfl⟩
      replace F := F h4 eh4
      refine x_puti hG hM ck_Re 3 (Nat.le_of_ble_eq_true rfl) rfl rfl w_261 rfl d_Re_follow_75 (Or.inl rfl) c5 ?_
      rw [← eh4]
      clear eh4
      refine x_sub [1, 2, 3, 4, 0] rfl ?_
      exact F
set_option maxRecDepth 100000 in
set_option maxHeartbeats 4000000 in
theorem S_Re_follow_78 {G : Gc} {M : Mc} {Q : State → Prop} {K : Option Value → Hp → Prop} (hG : gok G) (hM : mok G M r_Re_follow Q K) (v0 : Nat) (v1 : Nat) (v2 : Int32) (v3 : Int32) (v4 : Int32) (h : Hp) (F : kT h v0 = 8 ∧ kR h v0 0 = some (rf h v0 0) ∧ (kT h (rf h v0 0) = 50 ∧ vp_in v4 (kN h (rf h v0 0)) ∧ (kT h v0 = 8 ∧ kR h v0 0 = some (rf h v0 0) ∧ (kT h (rf h v0 0) = 50 ∧ vp_in v2 (kN h (rf h v0 0)) ∧ (((kI h (rf h v0 0) (Int32.toNatClampNeg v4)) = ((kI h (rf h v0 0) (Int32.toNatClampNeg v2)) + 1) → (kT h v0 = 8 ∧ kR h v0 1 = some (rf h v0 1) ∧ (kT h (rf h v0 1) = 52 ∧ vp_in v4 (kN h (rf h v0 1)) ∧ (kT h v0 = 8 ∧ kR h v0 1 = some (rf h v0 1) ∧ (kT h (rf h v0 1) = 52 ∧ vp_in v2 (kN h (rf h v0 1)) ∧ (kT h (rf h v0 1) = 52 ∧ vp_in v4 (kN h (rf h v0 1)) ∧ (∀ h1 : Hp, h1 = wL h (rf h v0 1) (Int32.toNatClampNeg v4) ((kL h (rf h v0 1) (Int32.toNatClampNeg v4)) + (kL h (rf h v0 1) (Int32.toNatClampNeg v2))) → X G M Q 2 [(0, .ref v0), (1, .ref v1), (2, .int v2), (3, .int (v3 + 1))] [] h1))))))) ∧ (¬ (kI h (rf h v0 0) (Int32.toNatClampNeg v4)) = ((kI h (rf h v0 0) (Int32.toNatClampNeg v2)) + 1) → X G M Q 2 [(0, .ref v0), (1, .ref v1), (2, .int v2), (3, .int (v3 + 1))] [] h)))))) : X G M Q 78 [(0, .ref v0), (1, .ref v1), (2, .int v2), (3, .int v3), (4, .int v4)] [] h := by
  refine x_aload_n hM d_Re_follow_78 rfl 0 rfl ?_
  obtain ⟨c19, F⟩ := F
  obtain ⟨c20, F⟩ := F
  refine x_getr hG hM ck_Re 0 (Nat.le_of_ble_eq_true rfl) rfl rfl w_256 rfl d_Re_follow_79 c19 c20 ?_
  refine x_iload hM d_Re_follow_82 4 rfl ?_
  obtain ⟨c17, F⟩ := F
  obtain ⟨c18, F⟩ := F
  refine x_iaload hG hM d_Re_follow_84 c17 c18 ?_
  refine x_aload_n hM d_Re_follow_85 rfl 0 rfl ?_
  obtain ⟨c15, F⟩ := F
  obtain ⟨c16, F⟩ := F
  refine x_getr hG hM ck_Re 0 (Nat.le_of_ble_eq_true rfl) rfl rfl w_256 rfl d_Re_follow_86 c15 c16 ?_
  refine x_iload_n hM d_Re_follow_89 rfl 2 rfl ?_
  obtain ⟨c13, F⟩ := F
  obtain ⟨c14, F⟩ := F
  refine x_iaload hG hM d_Re_follow_90 c13 c14 ?_
  refine x_iconst (v := 1) hM d_Re_follow_91 (by decide) ?_
  refine x_iadd hM d_Re_follow_92 ?_
  refine x_icmp_ne (tgt := 112) hM d_Re_follow_93 (by decide) (fun q12 => ?_) (fun q12 => ?_)
  · replace F := F.2 q12
    refine x_iinc (v := (v3 + 1)) (lv2 := [(3, .int (v3 + 1)), (0, .ref v0), (1, .ref v1), (2, .int v2), (4, .int v4)]) hM d_Re_follow_112 (j := 3) rfl rfl (Nat.le_of_ble_eq_true rfl) rfl ?_
    refine x_goto (tgt := 2) hM d_Re_follow_115 (by decide) ?_
    refine x_sub [1, 2, 3, 0] rfl ?_
    exact F
  · replace F := F.1 q12
    refine x_aload_n hM d_Re_follow_96 rfl 0 rfl ?_
    obtain ⟨c10, F⟩ := F
    obtain ⟨c11, F⟩ := F
    refine x_getr hG hM ck_Re 1 (Nat.le_of_ble_eq_true rfl) rfl rfl w_258 rfl d_Re_follow_97 c10 c11 ?_
    refine x_iload hM d_Re_follow_100 4 rfl ?_
    refine x_dup2 hM d_Re_follow_102 rfl rfl ?_
    obtain ⟨c8, F⟩ := F
    obtain ⟨c9, F⟩ := F
    refine x_laload hG hM d_Re_follow_103 c8 c9 ?_
    refine x_aload_n hM d_Re_follow_104 rfl 0 rfl ?_
    obtain ⟨c6, F⟩ := F
    obtain ⟨c7, F⟩ := F
    refine x_getr hG hM ck_Re 1 (Nat.le_of_ble_eq_true rfl) rfl rfl w_258 rfl d_Re_follow_105 c6 c7 ?_
    refine x_iload_n hM d_Re_follow_108 rfl 2 rfl ?_
    obtain ⟨c4, F⟩ := F
    obtain ⟨c5, F⟩ := F
    refine x_laload hG hM d_Re_follow_109 c4 c5 ?_
    refine x_ladd hM d_Re_follow_110 ?_
    obtain ⟨c2, F⟩ := F
    obtain ⟨c3, F⟩ := F
    obtain ⟨h1, eh1⟩ : ∃ z : Hp, z = wL h (rf h v0 1) (Int32.toNatClampNeg v4) ((kL h (rf h v0 1) (Int32.toNatClampNeg v4)) + (kL h (rf h v0 1) (Int32.toNatClampNeg v2))) := ⟨_, rfl⟩
    replace F := F h1 eh1
    refine x_lastore hG hM d_Re_follow_111 c2 c3 ?_
    rw [← eh1]
    clear eh1
    refine x_iinc (v := (v3 + 1)) (lv2 := [(3, .int (v3 + 1)), (0, .ref v0), (1, .ref v1), (2, .int v2), (4, .int v4)]) hM d_Re_follow_112 (j := 3) rfl rfl (Nat.le_of_ble_eq_true rfl) rfl ?_
    refine x_goto (tgt := 2) hM d_Re_follow_115 (by decide) ?_
    refine x_sub [1, 2, 3, 0] rfl ?_
    exact F
