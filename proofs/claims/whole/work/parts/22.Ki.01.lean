theorem d_Ki_placeThose_0 : decode b_Ki_placeThose 0 = .ok (.iload 4, 2) := by decide +kernel
theorem d_Ki_placeThose_2 : decode b_Ki_placeThose 2 = .ok (.istore 5, 2) := by decide +kernel
theorem d_Ki_placeThose_4 : decode b_Ki_placeThose 4 = .ok (.iconst 0, 1) := by decide +kernel
theorem d_Ki_placeThose_5 : decode b_Ki_placeThose 5 = .ok (.istore 6, 2) := by decide +kernel
theorem d_Ki_placeThose_7 : decode b_Ki_placeThose 7 = .ok (.iload 6, 2) := by decide +kernel
theorem d_Ki_placeThose_9 : decode b_Ki_placeThose 9 = .ok (.aload_n 1, 1) := by decide +kernel
theorem d_Ki_placeThose_10 : decode b_Ki_placeThose 10 = .ok (.getfield 69, 3) := by decide +kernel
theorem d_Ki_placeThose_13 : decode b_Ki_placeThose 13 = .ok (.if_icmp .ge 53, 3) := by decide +kernel
theorem d_Ki_placeThose_16 : decode b_Ki_placeThose 16 = .ok (.aload_n 2, 1) := by decide +kernel
theorem d_Ki_placeThose_17 : decode b_Ki_placeThose 17 = .ok (.iload 6, 2) := by decide +kernel
theorem d_Ki_placeThose_19 : decode b_Ki_placeThose 19 = .ok (.baload, 1) := by decide +kernel
theorem d_Ki_placeThose_20 : decode b_Ki_placeThose 20 = .ok (.iload_n 3, 1) := by decide +kernel
theorem d_Ki_placeThose_21 : decode b_Ki_placeThose 21 = .ok (.if_icmp .ne 39, 3) := by decide +kernel
theorem d_Ki_placeThose_24 : decode b_Ki_placeThose 24 = .ok (.aload_n 0, 1) := by decide +kernel
theorem d_Ki_placeThose_25 : decode b_Ki_placeThose 25 = .ok (.getfield 26, 3) := by decide +kernel
theorem d_Ki_placeThose_28 : decode b_Ki_placeThose 28 = .ok (.iload 5, 2) := by decide +kernel
theorem d_Ki_placeThose_30 : decode b_Ki_placeThose 30 = .ok (.iload 6, 2) := by decide +kernel
theorem d_Ki_placeThose_32 : decode b_Ki_placeThose 32 = .ok (.iastore, 1) := by decide +kernel
theorem d_Ki_placeThose_33 : decode b_Ki_placeThose 33 = .ok (.aload_n 0, 1) := by decide +kernel
theorem d_Ki_placeThose_34 : decode b_Ki_placeThose 34 = .ok (.getfield 29, 3) := by decide +kernel
theorem d_Ki_placeThose_37 : decode b_Ki_placeThose 37 = .ok (.iload 6, 2) := by decide +kernel
theorem d_Ki_placeThose_39 : decode b_Ki_placeThose 39 = .ok (.iload 5, 2) := by decide +kernel
theorem d_Ki_placeThose_41 : decode b_Ki_placeThose 41 = .ok (.iastore, 1) := by decide +kernel
theorem d_Ki_placeThose_42 : decode b_Ki_placeThose 42 = .ok (.aload_n 0, 1) := by decide +kernel
theorem d_Ki_placeThose_43 : decode b_Ki_placeThose 43 = .ok (.getfield 41, 3) := by decide +kernel
theorem d_Ki_placeThose_46 : decode b_Ki_placeThose 46 = .ok (.iload 6, 2) := by decide +kernel
theorem d_Ki_placeThose_48 : decode b_Ki_placeThose 48 = .ok (.iconst 1, 1) := by decide +kernel
theorem d_Ki_placeThose_49 : decode b_Ki_placeThose 49 = .ok (.aload_n 1, 1) := by decide +kernel
theorem d_Ki_placeThose_50 : decode b_Ki_placeThose 50 = .ok (.getfield 94, 3) := by decide +kernel
theorem d_Ki_placeThose_53 : decode b_Ki_placeThose 53 = .ok (.ishl, 1) := by decide +kernel
theorem d_Ki_placeThose_54 : decode b_Ki_placeThose 54 = .ok (.iconst 1, 1) := by decide +kernel
theorem d_Ki_placeThose_55 : decode b_Ki_placeThose 55 = .ok (.isub, 1) := by decide +kernel
theorem d_Ki_placeThose_56 : decode b_Ki_placeThose 56 = .ok (.iastore, 1) := by decide +kernel
theorem d_Ki_placeThose_57 : decode b_Ki_placeThose 57 = .ok (.iinc 5 1, 3) := by decide +kernel
theorem d_Ki_placeThose_60 : decode b_Ki_placeThose 60 = .ok (.iinc 6 1, 3) := by decide +kernel
theorem d_Ki_placeThose_63 : decode b_Ki_placeThose 63 = .ok (.goto (-56), 3) := by decide +kernel
theorem d_Ki_placeThose_66 : decode b_Ki_placeThose 66 = .ok (.iload 5, 2) := by decide +kernel
theorem d_Ki_placeThose_68 : decode b_Ki_placeThose 68 = .ok (.iload 4, 2) := by decide +kernel
theorem d_Ki_placeThose_70 : decode b_Ki_placeThose 70 = .ok (.if_icmp .le 46, 3) := by decide +kernel
theorem d_Ki_placeThose_73 : decode b_Ki_placeThose 73 = .ok (.aload_n 0, 1) := by decide +kernel
theorem d_Ki_placeThose_74 : decode b_Ki_placeThose 74 = .ok (.getfield 38, 3) := by decide +kernel
theorem d_Ki_placeThose_77 : decode b_Ki_placeThose 77 = .ok (.aload_n 0, 1) := by decide +kernel
theorem d_Ki_placeThose_78 : decode b_Ki_placeThose 78 = .ok (.iload 4, 2) := by decide +kernel
theorem d_Ki_placeThose_80 : decode b_Ki_placeThose 80 = .ok (.iload 5, 2) := by decide +kernel
theorem d_Ki_placeThose_82 : decode b_Ki_placeThose 82 = .ok (.invokevirtual 97, 3) := by decide +kernel
theorem d_Ki_placeThose_85 : decode b_Ki_placeThose 85 = .ok (.iload 5, 2) := by decide +kernel
theorem d_Ki_placeThose_87 : decode b_Ki_placeThose 87 = .ok (.iload 4, 2) := by decide +kernel
theorem d_Ki_placeThose_89 : decode b_Ki_placeThose 89 = .ok (.isub, 1) := by decide +kernel
theorem d_Ki_placeThose_90 : decode b_Ki_placeThose 90 = .ok (.iastore, 1) := by decide +kernel
theorem d_Ki_placeThose_91 : decode b_Ki_placeThose 91 = .ok (.aload_n 0, 1) := by decide +kernel
theorem d_Ki_placeThose_92 : decode b_Ki_placeThose 92 = .ok (.getfield 44, 3) := by decide +kernel
theorem d_Ki_placeThose_95 : decode b_Ki_placeThose 95 = .ok (.aload_n 0, 1) := by decide +kernel
theorem d_Ki_placeThose_96 : decode b_Ki_placeThose 96 = .ok (.getfield 47, 3) := by decide +kernel
theorem d_Ki_placeThose_99 : decode b_Ki_placeThose 99 = .ok (.aload_n 0, 1) := by decide +kernel
theorem d_Ki_placeThose_100 : decode b_Ki_placeThose 100 = .ok (.getfield 9, 3) := by decide +kernel
theorem d_Ki_placeThose_103 : decode b_Ki_placeThose 103 = .ok (.iconst 1, 1) := by decide +kernel
theorem d_Ki_placeThose_104 : decode b_Ki_placeThose 104 = .ok (.isub, 1) := by decide +kernel
theorem d_Ki_placeThose_105 : decode b_Ki_placeThose 105 = .ok (.iastore, 1) := by decide +kernel
theorem d_Ki_placeThose_106 : decode b_Ki_placeThose 106 = .ok (.aload_n 0, 1) := by decide +kernel
theorem d_Ki_placeThose_107 : decode b_Ki_placeThose 107 = .ok (.dup, 1) := by decide +kernel
theorem d_Ki_placeThose_108 : decode b_Ki_placeThose 108 = .ok (.getfield 47, 3) := by decide +kernel
theorem d_Ki_placeThose_111 : decode b_Ki_placeThose 111 = .ok (.iconst 1, 1) := by decide +kernel
theorem d_Ki_placeThose_112 : decode b_Ki_placeThose 112 = .ok (.iadd, 1) := by decide +kernel
theorem d_Ki_placeThose_113 : decode b_Ki_placeThose 113 = .ok (.putfield 47, 3) := by decide +kernel
theorem d_Ki_placeThose_116 : decode b_Ki_placeThose 116 = .ok (.iload 5, 2) := by decide +kernel
theorem d_Ki_placeThose_118 : decode b_Ki_placeThose 118 = .ok (.ireturn, 1) := by decide +kernel
set_option maxRecDepth 100000 in
set_option maxHeartbeats 4000000 in
theorem S_Ki_placeThose_0 {G : Gc} {M : Mc} {Q : State → Prop} {K : Option Value → Hp → Prop} (hG : gok G) (hM : mok G M r_Ki_placeThose Q K) (v0 : Nat) (v1 : Nat) (v2 : Nat) (v3 : Int32) (v4 : Int32) (h : Hp) (F : X G M Q 7 [(0, .ref v0), (1, .ref v1), (2, .ref v2), (3, .int v3), (4, .int v4), (5, .int v4), (6, .int 0)] [] h) : X G M Q 0 [(0, .ref v0), (1, .ref v1), (2, .ref v2), (3, .int v3), (4, .int v4)] [] h := by
  refine x_iload hM d_Ki_placeThose_0 4 rfl ?_
  refine x_istore (lv2 := [(5, .int v4), (0, .ref v0), (1, .ref v1), (2, .ref v2), (3, .int v3), (4, .int v4)]) hM d_Ki_placeThose_2 (Nat.le_of_ble_eq_true rfl) rfl ?_
  refine x_iconst (v := 0) hM d_Ki_placeThose_4 (by decide) ?_
  refine x_istore (lv2 := [(6, .int 0), (5, .int v4), (0, .ref v0), (1, .ref v1), (2, .ref v2), (3, .int v3), (4, .int v4)]) hM d_Ki_placeThose_5 (Nat.le_of_ble_eq_true rfl) rfl ?_
  refine x_sub [2, 3, 4, 5, 6, 1, 0] rfl ?_
  exact F
set_option maxRecDepth 100000 in
set_option maxHeartbeats 4000000 in
theorem S_Ki_placeThose_7 {G : Gc} {M : Mc} {Q : State → Prop} {K : Option Value → Hp → Prop} (hG : gok G) (hM : mok G M r_Ki_placeThose Q K) (v0 : Nat) (v1 : Nat) (v2 : Nat) (v3 : Int32) (v4 : Int32) (v5 : Int32) (v6 : Int32) (h : Hp) (F : kT h v1 = 2 ∧ (((kI h v1 1) ≤ v6 → ((v5 ≤ v4 → K (some (.int v5)) h) ∧ (¬ v5 ≤ v4 → (kT h v0 = 10 ∧ kR h v0 8 = some (rf h v0 8) ∧ (kT h v0 = 10 ∧ sem G r_Ki_open [.ref v0, .int v4, .int v5] h (fun u2 h1 => ∃ x3 : Int32, u2 = some (.int x3) ∧ (kT h1 (rf h v0 8) = 50 ∧ vp_in x3 (kN h1 (rf h v0 8)) ∧ (∀ h4 : Hp, h4 = wI h1 (rf h v0 8) (Int32.toNatClampNeg x3) (v5 - v4) → (kT h4 v0 = 10 ∧ kR h4 v0 10 = some (rf h4 v0 10) ∧ (kT h4 v0 = 10 ∧ (kT h4 v0 = 10 ∧ (kT h4 (rf h4 v0 10) = 50 ∧ vp_in (kI h4 v0 11) (kN h4 (rf h4 v0 10)) ∧ (∀ h5 : Hp, h5 = wI h4 (rf h4 v0 10) (Int32.toNatClampNeg (kI h4 v0 11)) ((kI h4 v0 0) - 1) → (kT h5 v0 = 10 ∧ (kT h5 v0 = 10 ∧ (∀ h6 : Hp, h6 = wI h5 v0 11 ((kI h5 v0 11) + 1) → K (some (.int v5)) h6)))))))))))))))) ∧ (¬ (kI h v1 1) ≤ v6 → (kT h v2 = 51 ∧ vp_in v6 (kN h v2) ∧ (((kI h v2 (Int32.toNatClampNeg v6)) = v3 → (kT h v0 = 10 ∧ kR h v0 4 = some (rf h v0 4) ∧ (kT h (rf h v0 4) = 50 ∧ vp_in v5 (kN h (rf h v0 4)) ∧ (∀ h21 : Hp, h21 = wI h (rf h v0 4) (Int32.toNatClampNeg v5) v6 → (kT h21 v0 = 10 ∧ kR h21 v0 5 = some (rf h21 v0 5) ∧ (kT h21 (rf h21 v0 5) = 50 ∧ vp_in v6 (kN h21 (rf h21 v0 5)) ∧ (∀ h22 : Hp, h22 = wI h21 (rf h21 v0 5) (Int32.toNatClampNeg v6) v5 → (kT h22 v0 = 10 ∧ kR h22 v0 9 = some (rf h22 v0 9) ∧ (kT h22 v1 = 2 ∧ (kT h22 (rf h22 v0 9) = 50 ∧ vp_in v6 (kN h22 (rf h22 v0 9)) ∧ (∀ h23 : Hp, h23 = wI h22 (rf h22 v0 9) (Int32.toNatClampNeg v6) ((1 <<< ((kI h22 v1 2) &&& 31)) - 1) → X G M Q 7 [(0, .ref v0), (1, .ref v1), (2, .ref v2), (3, .int v3), (4, .int v4), (5, .int (v5 + 1)), (6, .int (v6 + 1))] [] h23))))))))))) ∧ (¬ (kI h v2 (Int32.toNatClampNeg v6)) = v3 → X G M Q 7 [(0, .ref v0), (1, .ref v1), (2, .ref v2), (3, .int v3), (4, .int v4), (5, .int v5), (6, .int (v6 + 1))] [] h)))))) : X G M Q 7 [(0, .ref v0), (1, .ref v1), (2, .ref v2), (3, .int v3), (4, .int v4), (5, .int v5), (6, .int v6)] [] h := by
  refine x_iload hM d_Ki_placeThose_7 6 rfl ?_
  refine x_aload_n hM d_Ki_placeThose_9 rfl 1 rfl ?_
  obtain ⟨c41, F⟩ := F
  refine x_geti hG hM ck_Wo 1 (Nat.le_of_ble_eq_true rfl) rfl rfl w_126 rfl d_Ki_placeThose_10 c41 ?_
  refine x_icmp_ge (tgt := 66) hM d_Ki_placeThose_13 (by decide) (fun q40 => ?_) (fun q40 => ?_)
  · replace F := F.1 q40
    refine x_iload hM d_Ki_placeThose_66 5 rfl ?_
    refine x_iload hM d_Ki_placeThose_68 4 rfl ?_
    refine x_icmp_le (tgt := 116) hM d_Ki_placeThose_70 (by decide) (fun q20 => ?_) (fun q20 => ?_)
    · replace F := F.1 q20
      refine x_iload hM d_Ki_placeThose_116 5 rfl ?_
      exact x_ireturn hM d_Ki_placeThose_118 rfl F
    · replace F := F.2 q20
      refine x_aload_n hM d_Ki_placeThose_73 rfl 0 rfl ?_
      obtain ⟨c18, F⟩ := F
      obtain ⟨c19, F⟩ := F
      refine x_getr hG hM ck_Ki 8 (Nat.le_of_ble_eq_true rfl) rfl rfl w_333 rfl d_Ki_placeThose_74 c18 c19 ?_
      refine x_aload_n hM d_Ki_placeThose_77 rfl 0 rfl ?_
      refine x_iload hM d_Ki_placeThose_78 4 rfl ?_
      refine x_iload hM d_Ki_placeThose_80 5 rfl ?_
      obtain ⟨c17, F⟩ := F
      refine x_callV hG hM (r' := r_Ki_open) (ci := 9) [.int v4, .int v5] rfl rfl (Nat.le_of_ble_eq_true rfl) yk_Ki_open ⟨Nat.le_of_ble_eq_true rfl, Nat.le_of_ble_eq_true rfl⟩ w_711 w_713 ws_Ki_open rfl rfl (Nat.le_of_ble_eq_true rfl) d_Ki_placeThose_82 c17 (sem_mono F ?_)
      intro u2 h1 F
      obtain ⟨x3, rfl, F⟩ := F
      refine x_iload hM d_Ki_placeThose_85 5 rfl ?_
      refine x_iload hM d_Ki_placeThose_87 4 rfl ?_
      refine x_isub hM d_Ki_placeThose_89 ?_
      obtain ⟨c15, F⟩ := F
      obtain ⟨c16, F⟩ := F
      obtain ⟨h4, eh4⟩ : ∃ z : Hp, z = wI h1 (rf h v0 8) (Int32.toNatClampNeg x3) (v5 - v4) := ⟨_, rfl⟩
      replace F := F h4 eh4
      refine x_iastore hG hM d_Ki_placeThose_90 c15 c16 ?_
      rw [← eh4]
      clear eh4
      refine x_aload_n hM d_Ki_placeThose_91 rfl 0 rfl ?_
      obtain ⟨c13, F⟩ := F
      obtain ⟨c14, F⟩ := F
      refine x_getr hG hM ck_Ki 10 (Nat.le_of_ble_eq_true rfl) rfl rfl w_335 rfl d_Ki_placeThose_92 c13 c14 ?_
      refine x_aload_n hM d_Ki_placeThose_95 rfl 0 rfl ?_
      obtain ⟨c12, F⟩ := F
      refine x_geti hG hM ck_Ki 11 (Nat.le_of_ble_eq_true rfl) rfl rfl w_336 rfl d_Ki_placeThose_96 c12 ?_
      refine x_aload_n hM d_Ki_placeThose_99 rfl 0 rfl ?_
      obtain ⟨c11, F⟩ := F
      refine x_geti hG hM ck_Ki 0 (Nat.le_of_ble_eq_true rfl) rfl rfl w_321 rfl d_Ki_placeThose_100 c11 ?_
      refine x_iconst (v := 1) hM d_Ki_placeThose_103 (by decide) ?_
      refine x_isub hM d_Ki_placeThose_104 ?_
      obtain ⟨c9, F⟩ := F
      obtain ⟨c10, F⟩ := F
      obtain ⟨h5, eh5⟩ : ∃ z : Hp, z = wI h4 (rf h4 v0 10) (Int32.toNatClampNeg (kI h4 v0 11)) ((kI h4 v0 0) - 1) := ⟨_, rfl⟩
      replace F := F h5 eh5
      refine x_iastore hG hM d_Ki_placeThose_105 c9 c10 ?_
      rw [← eh5]
      clear eh5
      refine x_aload_n hM d_Ki_placeThose_106 rfl 0 rfl ?_
      refine x_dup hM d_Ki_placeThose_107 rfl ?_
      obtain ⟨c8, F⟩ := F
      refine x_geti hG hM ck_Ki 11 (Nat.le_of_ble_eq_true rfl) rfl rfl w_336 rfl d_Ki_placeThose_108 c8 ?_
      refine x_iconst (v := 1) hM d_Ki_placeThose_111 (by decide) ?_
      refine x_iadd hM d_Ki_placeThose_112 ?_
      obtain ⟨c7, F⟩ := F
      obtain ⟨h6, eh6⟩ : ∃ z : Hp, z = wI h5 v0 11 ((kI h5 v0 11) + 1) := ⟨_, rfl⟩
      replace F := F h6 eh6
      refine x_puti hG hM ck_Ki 11 (Nat.le_of_ble_eq_true rfl) rfl rfl w_336 rfl d_Ki_placeThose_113 (Or.inl rfl) c7 ?_
      rw [← eh6]
      clear eh6
      refine x_iload hM d_Ki_placeThose_116 5 rfl ?_
      exact x_ireturn hM d_Ki_placeThose_118 rfl F
  · replace F := F.2 q40
    refine x_aload_n hM d_Ki_placeThose_16 rfl 2 rfl ?_
    refine x_iload hM d_Ki_placeThose_17 6 rfl ?_
    obtain ⟨c38, F⟩ := F
    obtain ⟨c39, F⟩ := F
    refine x_zaload hG hM d_Ki_placeThose_19 c38 c39 ?_
    refine x_iload_n hM d_Ki_placeThose_20 rfl 3 rfl ?_
    refine x_icmp_ne (tgt := 60) hM d_Ki_placeThose_21 (by decide) (fun q37 => ?_) (fun q37 => ?_)
    · replace F := F.2 q37
      refine x_iinc (v := (v6 + 1)) (lv2 := [(6, .int (v6 + 1)), (0, .ref v0), (1, .ref v1), (2, .ref v2), (3, .int v3), (4, .int v4), (5, .int v5)]) hM d_Ki_placeThose_60 (j := 6) rfl rfl (Nat.le_of_ble_eq_true rfl) rfl ?_
      refine x_goto (tgt := 7) hM d_Ki_placeThose_63 (by decide) ?_
      refine x_sub [1, 2, 3, 4, 5, 6, 0] rfl ?_
      exact F
    · replace F := F.1 q37
      refine x_aload_n hM d_Ki_placeThose_24 rfl 0 rfl ?_
      obtain ⟨c35, F⟩ := F
      obtain ⟨c36, F⟩ := F
      refine x_getr hG hM ck_Ki 4 (Nat.le_of_ble_eq_true rfl) rfl rfl w_329 rfl d_Ki_placeThose_25 c35 c36 ?_
      refine x_iload hM d_Ki_placeThose_28 5 rfl ?_
      refine x_iload hM d_Ki_placeThose_30 6 rfl ?_
      obtain ⟨c33, F⟩ := F
      obtain ⟨c34, F⟩ := F
      obtain ⟨h21, eh21⟩ : ∃ z : Hp, z = wI h (rf h v0 4) (Int32.toNatClampNeg v5) v6 := ⟨_, rfl⟩
      replace F := F h21 eh21
      refine x_iastore hG hM d_Ki_placeThose_32 c33 c34 ?_
      rw [← eh21]
      clear eh21
      refine x_aload_n hM d_Ki_placeThose_33 rfl 0 rfl ?_
      obtain ⟨c31, F⟩ := F
      obtain ⟨c32, F⟩ := F
      refine x_getr hG hM ck_Ki 5 (Nat.le_of_ble_eq_true rfl) rfl rfl w_330 rfl d_Ki_placeThose_34 c31 c32 ?_
      refine x_iload hM d_Ki_placeThose_37 6 rfl ?_
      refine x_iload hM d_Ki_placeThose_39 5 rfl ?_
      obtain ⟨c29, F⟩ := F
      obtain ⟨c30, F⟩ := F
      obtain ⟨h22, eh22⟩ : ∃ z : Hp, z = wI h21 (rf h21 v0 5) (Int32.toNatClampNeg v6) v5 := ⟨_, rfl⟩
      replace F := F h22 eh22
      refine x_iastore hG hM d_Ki_placeThose_41 c29 c30 ?_
      rw [← eh22]
      clear eh22
      refine x_aload_n hM d_Ki_placeThose_42 rfl 0 rfl ?_
      obtain ⟨c27, F⟩ := F
      obtain ⟨c28, F⟩ := F
      refine x_getr hG hM ck_Ki 9 (Nat.le_of_ble_eq_true rfl) rfl rfl w_334 rfl d_Ki_placeThose_43 c27 c28 ?_
      refine x_iload hM d_Ki_placeThose_46 6 rfl ?_
      refine x_iconst (v := 1) hM d_Ki_placeThose_48 (by decide) ?_
      refine x_aload_n hM d_Ki_placeThose_49 rfl 1 rfl ?_
      obtain ⟨c26, F⟩ := F
      refine x_geti hG hM ck_Wo 2 (Nat.le_of_ble_eq_true rfl) rfl rfl w_137 rfl d_Ki_placeThose_50 c26 ?_
      refine x_ishl hM d_Ki_placeThose_53 ?_
      refine x_iconst (v := 1) hM d_Ki_placeThose_54 (by decide) ?_
      refine x_isub hM d_Ki_placeThose_55 ?_
      obtain ⟨c24, F⟩ := F
      obtain ⟨c25, F⟩ := F
      obtain ⟨h23, eh23⟩ : ∃ z : Hp, z = wI h22 (rf h22 v0 9) (Int32.toNatClampNeg v6) ((1 <<< ((kI h22 v1 2) &&& 31)) - 1) := ⟨_, rfl⟩
      replace F := F h23 eh23
      refine x_iastore hG hM d_Ki_placeThose_56 c24 c25 ?_
      rw [← eh23]
      clear eh23
      refine x_iinc (v := (v5 + 1)) (lv2 := [(5, .int (v5 + 1)), (0, .ref v0), (1, .ref v1), (2, .ref v2), (3, .int v3), (4, .int v4), (6, .int v6)]) hM d_Ki_placeThose_57 (j := 5) rfl rfl (Nat.le_of_ble_eq_true rfl) rfl ?_
      refine x_iinc (v := (v6 + 1)) (lv2 := [(6, .int (v6 + 1)), (5, .int (v5 + 1)), (0, .ref v0), (1, .ref v1), (2, .ref v2), (3, .int v3), (4, .int v4)]) hM d_Ki_placeThose_60 (j := 6) rfl rfl (Nat.le_of_ble_eq_true rfl) rfl ?_
      refine x_goto (tgt := 7) hM d_Ki_placeThose_63 (by decide) ?_
      refine x_sub [2, 3, 4, 5, 6, 1, 0] rfl ?_
      exact F
theorem d_Ki_open_0 : decode b_Ki_open 0 = .ok (.aload_n 0, 1) := by decide +kernel
theorem d_Ki_open_1 : decode b_Ki_open 1 = .ok (.getfield 9, 3) := by decide +kernel
theorem d_Ki_open_4 : decode b_Ki_open 4 = .ok (.istore_n 3, 1) := by decide +kernel
theorem d_Ki_open_5 : decode b_Ki_open 5 = .ok (.aload_n 0, 1) := by decide +kernel
theorem d_Ki_open_6 : decode b_Ki_open 6 = .ok (.dup, 1) := by decide +kernel
theorem d_Ki_open_7 : decode b_Ki_open 7 = .ok (.getfield 9, 3) := by decide +kernel
theorem d_Ki_open_10 : decode b_Ki_open 10 = .ok (.iconst 1, 1) := by decide +kernel
theorem d_Ki_open_11 : decode b_Ki_open 11 = .ok (.iadd, 1) := by decide +kernel
theorem d_Ki_open_12 : decode b_Ki_open 12 = .ok (.putfield 9, 3) := by decide +kernel
theorem d_Ki_open_15 : decode b_Ki_open 15 = .ok (.aload_n 0, 1) := by decide +kernel
theorem d_Ki_open_16 : decode b_Ki_open 16 = .ok (.getfield 32, 3) := by decide +kernel
theorem d_Ki_open_19 : decode b_Ki_open 19 = .ok (.iload_n 3, 1) := by decide +kernel
theorem d_Ki_open_20 : decode b_Ki_open 20 = .ok (.iload_n 1, 1) := by decide +kernel
theorem d_Ki_open_21 : decode b_Ki_open 21 = .ok (.iastore, 1) := by decide +kernel
theorem d_Ki_open_22 : decode b_Ki_open 22 = .ok (.aload_n 0, 1) := by decide +kernel
theorem d_Ki_open_23 : decode b_Ki_open 23 = .ok (.getfield 35, 3) := by decide +kernel
theorem d_Ki_open_26 : decode b_Ki_open 26 = .ok (.iload_n 3, 1) := by decide +kernel
theorem d_Ki_open_27 : decode b_Ki_open 27 = .ok (.iload_n 2, 1) := by decide +kernel
theorem d_Ki_open_28 : decode b_Ki_open 28 = .ok (.iastore, 1) := by decide +kernel
theorem d_Ki_open_29 : decode b_Ki_open 29 = .ok (.aload_n 0, 1) := by decide +kernel
theorem d_Ki_open_30 : decode b_Ki_open 30 = .ok (.getfield 38, 3) := by decide +kernel
theorem d_Ki_open_33 : decode b_Ki_open 33 = .ok (.iload_n 3, 1) := by decide +kernel
theorem d_Ki_open_34 : decode b_Ki_open 34 = .ok (.iconst 0, 1) := by decide +kernel
theorem d_Ki_open_35 : decode b_Ki_open 35 = .ok (.iastore, 1) := by decide +kernel
theorem d_Ki_open_36 : decode b_Ki_open 36 = .ok (.iload_n 1, 1) := by decide +kernel
theorem d_Ki_open_37 : decode b_Ki_open 37 = .ok (.istore 4, 2) := by decide +kernel
theorem d_Ki_open_39 : decode b_Ki_open 39 = .ok (.iload 4, 2) := by decide +kernel
theorem d_Ki_open_41 : decode b_Ki_open 41 = .ok (.iload_n 2, 1) := by decide +kernel
theorem d_Ki_open_42 : decode b_Ki_open 42 = .ok (.if_icmp .ge 22, 3) := by decide +kernel
theorem d_Ki_open_45 : decode b_Ki_open 45 = .ok (.aload_n 0, 1) := by decide +kernel
theorem d_Ki_open_46 : decode b_Ki_open 46 = .ok (.getfield 19, 3) := by decide +kernel
theorem d_Ki_open_49 : decode b_Ki_open 49 = .ok (.aload_n 0, 1) := by decide +kernel
theorem d_Ki_open_50 : decode b_Ki_open 50 = .ok (.getfield 26, 3) := by decide +kernel
theorem d_Ki_open_53 : decode b_Ki_open 53 = .ok (.iload 4, 2) := by decide +kernel
theorem d_Ki_open_55 : decode b_Ki_open 55 = .ok (.iaload, 1) := by decide +kernel
theorem d_Ki_open_56 : decode b_Ki_open 56 = .ok (.iload_n 3, 1) := by decide +kernel
theorem d_Ki_open_57 : decode b_Ki_open 57 = .ok (.iastore, 1) := by decide +kernel
theorem d_Ki_open_58 : decode b_Ki_open 58 = .ok (.iinc 4 1, 3) := by decide +kernel
theorem d_Ki_open_61 : decode b_Ki_open 61 = .ok (.goto (-22), 3) := by decide +kernel
theorem d_Ki_open_64 : decode b_Ki_open 64 = .ok (.iload_n 3, 1) := by decide +kernel
theorem d_Ki_open_65 : decode b_Ki_open 65 = .ok (.ireturn, 1) := by decide +kernel
set_option maxRecDepth 100000 in
set_option maxHeartbeats 4000000 in
theorem S_Ki_open_0 {G : Gc} {M : Mc} {Q : State → Prop} {K : Option Value → Hp → Prop} (hG : gok G) (hM : mok G M r_Ki_open Q K) (v0 : Nat) (v1 : Int32) (v2 : Int32) (h : Hp) (F : kT h v0 = 10 ∧ (kT h v0 = 10 ∧ (kT h v0 = 10 ∧ (∀ h1 : Hp, h1 = wI h v0 0 ((kI h v0 0) + 1) → (kT h1 v0 = 10 ∧ kR h1 v0 6 = some (rf h1 v0 6) ∧ (kT h1 (rf h1 v0 6) = 50 ∧ vp_in (kI h v0 0) (kN h1 (rf h1 v0 6)) ∧ (∀ h2 : Hp, h2 = wI h1 (rf h1 v0 6) (Int32.toNatClampNeg (kI h v0 0)) v1 → (kT h2 v0 = 10 ∧ kR h2 v0 7 = some (rf h2 v0 7) ∧ (kT h2 (rf h2 v0 7) = 50 ∧ vp_in (kI h v0 0) (kN h2 (rf h2 v0 7)) ∧ (∀ h3 : Hp, h3 = wI h2 (rf h2 v0 7) (Int32.toNatClampNeg (kI h v0 0)) v2 → (kT h3 v0 = 10 ∧ kR h3 v0 8 = some (rf h3 v0 8) ∧ (kT h3 (rf h3 v0 8) = 50 ∧ vp_in (kI h v0 0) (kN h3 (rf h3 v0 8)) ∧ (∀ h4 : Hp, h4 = wI h3 (rf h3 v0 8) (Int32.toNatClampNeg (kI h v0 0)) 0 → X G M Q 39 [(0, .ref v0), (2, .int v2), (3, .int (kI h v0 0)), (4, .int v1)] [] h4))))))))))))) : X G M Q 0 [(0, .ref v0), (1, .int v1), (2, .int v2)] [] h := by
  refine x_aload_n hM d_Ki_open_0 rfl 0 rfl ?_
  obtain ⟨c19, F⟩ := F
  refine x_geti hG hM ck_Ki 0 (Nat.le_of_ble_eq_true rfl) rfl rfl w_321 rfl d_Ki_open_1 c19 ?_
  refine x_istore_n (lv2 := [(3, .int (kI h v0 0)), (0, .ref v0), (1, .int v1), (2, .int v2)]) hM d_Ki_open_4 rfl (Nat.le_of_ble_eq_true rfl) rfl ?_
  refine x_aload_n hM d_Ki_open_5 rfl 1 rfl ?_
  refine x_dup hM d_Ki_open_6 rfl ?_
  obtain ⟨c18, F⟩ := F
  refine x_geti hG hM ck_Ki 0 (Nat.le_of_ble_eq_true rfl) rfl rfl w_321 rfl d_Ki_open_7 c18 ?_
  refine x_iconst (v := 1) hM d_Ki_open_10 (by decide) ?_
  refine x_iadd hM d_Ki_open_11 ?_
  obtain ⟨c17, F⟩ := F
  obtain ⟨h1, eh1⟩ : ∃ z : Hp, z = wI h v0 0 ((kI h v0 0) + 1) := ⟨_, rfl⟩
  replace F := F h1 eh1
  refine x_puti hG hM ck_Ki 0 (Nat.le_of_ble_eq_true rfl) rfl rfl w_321 rfl d_Ki_open_12 (Or.inl rfl) c17 ?_
  rw [← eh1]
  clear eh1
  refine x_aload_n hM d_Ki_open_15 rfl 1 rfl ?_
  obtain ⟨c15, F⟩ := F
  obtain ⟨c16, F⟩ := F
  refine x_getr hG hM ck_Ki 6 (Nat.le_of_ble_eq_true rfl) rfl rfl w_331 rfl d_Ki_open_16 c15 c16 ?_
  refine x_iload_n hM d_Ki_open_19 rfl 0 rfl ?_
  refine x_iload_n hM d_Ki_open_20 rfl 2 rfl ?_
  obtain ⟨c13, F⟩ := F
  obtain ⟨c14, F⟩ := F
  obtain ⟨h2, eh2⟩ : ∃ z : Hp, z = wI h1 (rf h1 v0 6) (Int32.toNatClampNeg (kI h v0 0)) v1 := ⟨_, rfl⟩
  replace F := F h2 eh2
  refine x_iastore hG hM d_Ki_open_21 c13 c14 ?_
  rw [← eh2]
  clear eh2
  refine x_aload_n hM d_Ki_open_22 rfl 1 rfl ?_
  obtain ⟨c11, F⟩ := F
  obtain ⟨c12, F⟩ := F
  refine x_getr hG hM ck_Ki 7 (Nat.le_of_ble_eq_true rfl) rfl rfl w_332 rfl d_Ki_open_23 c11 c12 ?_
  refine x_iload_n hM d_Ki_open_26 rfl 0 rfl ?_
  refine x_iload_n hM d_Ki_open_27 rfl 3 rfl ?_
  obtain ⟨c9, F⟩ := F
  obtain ⟨c10, F⟩ := F
  obtain ⟨h3, eh3⟩ : ∃ z : Hp, z = wI h2 (rf h2 v0 7) (Int32.toNatClampNeg (kI h v0 0)) v2 := ⟨_, rfl⟩
  replace F := F h3 eh3
  refine x_iastore hG hM d_Ki_open_28 c9 c10 ?_
  rw [← eh3]
  clear eh3
  refine x_aload_n hM d_Ki_open_29 rfl 1 rfl ?_
  obtain ⟨c7, F⟩ := F
  obtain ⟨c8, F⟩ := F
  refine x_getr hG hM ck_Ki 8 (Nat.le_of_ble_eq_true rfl) rfl rfl w_333 rfl d_Ki_open_30 c7 c8 ?_
  refine x_iload_n hM d_Ki_open_33 rfl 0 rfl ?_
  refine x_iconst (v := 0) hM d_Ki_open_34 (by decide) ?_
  obtain ⟨c5, F⟩ := F
  obtain ⟨c6, F⟩ := F
  obtain ⟨h4, eh4⟩ : ∃ z : Hp, z = wI h3 (rf h3 v0 8) (Int32.toNatClampNeg (kI h v0 0)) 0 := ⟨_, rfl⟩
  replace F := F h4 eh4
  refine x_iastore hG hM d_Ki_open_35 c5 c6 ?_
  rw [← eh4]
  clear eh4
  refine x_iload_n hM d_Ki_open_36 rfl 2 rfl ?_
  refine x_istore (lv2 := [(4, .int v1), (3, .int (kI h v0 0)), (0, .ref v0), (1, .int v1), (2, .int v2)]) hM d_Ki_open_37 (Nat.le_of_ble_eq_true rfl) rfl ?_
  refine x_sub [2, 4, 1, 0] rfl ?_
  exact F
set_option maxRecDepth 100000 in
set_option maxHeartbeats 4000000 in
theorem S_Ki_open_39 {G : Gc} {M : Mc} {Q : State → Prop} {K : Option Value → Hp → Prop} (hG : gok G) (hM : mok G M r_Ki_open Q K) (v0 : Nat) (v2 : Int32) (v3 : Int32) (v4 : Int32) (h : Hp) (F : (v2 ≤ v4 → K (some (.int v3)) h) ∧ (¬ v2 ≤ v4 → (kT h v0 = 10 ∧ kR h v0 2 = some (rf h v0 2) ∧ (kT h v0 = 10 ∧ kR h v0 4 = some (rf h v0 4) ∧ (kT h (rf h v0 4) = 50 ∧ vp_in v4 (kN h (rf h v0 4)) ∧ (kT h (rf h v0 2) = 50 ∧ vp_in (kI h (rf h v0 4) (Int32.toNatClampNeg v4)) (kN h (rf h v0 2)) ∧ (∀ h1 : Hp, h1 = wI h (rf h v0 2) (Int32.toNatClampNeg (kI h (rf h v0 4) (Int32.toNatClampNeg v4))) v3 → X G M Q 39 [(0, .ref v0), (2, .int v2), (3, .int v3), (4, .int (v4 + 1))] [] h1))))))) : X G M Q 39 [(0, .ref v0), (2, .int v2), (3, .int v3), (4, .int v4)] [] h := by
  refine x_iload hM d_Ki_open_39 3 rfl ?_
  refine x_iload_n hM d_Ki_open_41 rfl 1 rfl ?_
  refine x_icmp_ge (tgt := 64) hM d_Ki_open_42 (by decide) (fun q10 => ?_) (fun q10 => ?_)
  · replace F := F.1 q10
    refine x_iload_n hM d_Ki_open_64 rfl 2 rfl ?_
    exact x_ireturn hM d_Ki_open_65 rfl F
  · replace F := F.2 q10
    refine x_aload_n hM d_Ki_open_45 rfl 0 rfl ?_
    obtain ⟨c8, F⟩ := F
    obtain ⟨c9, F⟩ := F
    refine x_getr hG hM ck_Ki 2 (Nat.le_of_ble_eq_true rfl) rfl rfl w_325 rfl d_Ki_open_46 c8 c9 ?_
    refine x_aload_n hM d_Ki_open_49 rfl 0 rfl ?_
    obtain ⟨c6, F⟩ := F
    obtain ⟨c7, F⟩ := F
    refine x_getr hG hM ck_Ki 4 (Nat.le_of_ble_eq_true rfl) rfl rfl w_329 rfl d_Ki_open_50 c6 c7 ?_
    refine x_iload hM d_Ki_open_53 3 rfl ?_
    obtain ⟨c4, F⟩ := F
    obtain ⟨c5, F⟩ := F
    refine x_iaload hG hM d_Ki_open_55 c4 c5 ?_
    refine x_iload_n hM d_Ki_open_56 rfl 2 rfl ?_
    obtain ⟨c2, F⟩ := F
    obtain ⟨c3, F⟩ := F
    obtain ⟨h1, eh1⟩ : ∃ z : Hp, z = wI h (rf h v0 2) (Int32.toNatClampNeg (kI h (rf h v0 4) (Int32.toNatClampNeg v4))) v3 := ⟨_, rfl⟩
    replace F := F h1 eh1
    refine x_iastore hG hM d_Ki_open_57 c2 c3 ?_
    rw [← eh1]
    clear eh1
    refine x_iinc (v := (v4 + 1)) (lv2 := [(4, .int (v4 + 1)), (0, .ref v0), (2, .int v2), (3, .int v3)]) hM d_Ki_open_58 (j := 3) rfl rfl (Nat.le_of_ble_eq_true rfl) rfl ?_
    refine x_goto (tgt := 39) hM d_Ki_open_61 (by decide) ?_
    refine x_sub [1, 2, 3, 0] rfl ?_
    exact F
theorem d_Ki_settle_0 : decode b_Ki_settle 0 = .ok (.aload_n 0, 1) := by decide +kernel
theorem d_Ki_settle_1 : decode b_Ki_settle 1 = .ok (.getfield 32, 3) := by decide +kernel
theorem d_Ki_settle_4 : decode b_Ki_settle 4 = .ok (.iload_n 2, 1) := by decide +kernel
theorem d_Ki_settle_5 : decode b_Ki_settle 5 = .ok (.iaload, 1) := by decide +kernel
theorem d_Ki_settle_6 : decode b_Ki_settle 6 = .ok (.aload_n 0, 1) := by decide +kernel
theorem d_Ki_settle_7 : decode b_Ki_settle 7 = .ok (.getfield 38, 3) := by decide +kernel
theorem d_Ki_settle_10 : decode b_Ki_settle 10 = .ok (.iload_n 2, 1) := by decide +kernel
theorem d_Ki_settle_11 : decode b_Ki_settle 11 = .ok (.iaload, 1) := by decide +kernel
theorem d_Ki_settle_12 : decode b_Ki_settle 12 = .ok (.iadd, 1) := by decide +kernel
theorem d_Ki_settle_13 : decode b_Ki_settle 13 = .ok (.istore_n 3, 1) := by decide +kernel
theorem d_Ki_settle_14 : decode b_Ki_settle 14 = .ok (.iload_n 3, 1) := by decide +kernel
theorem d_Ki_settle_15 : decode b_Ki_settle 15 = .ok (.iconst 1, 1) := by decide +kernel
theorem d_Ki_settle_16 : decode b_Ki_settle 16 = .ok (.iadd, 1) := by decide +kernel
theorem d_Ki_settle_17 : decode b_Ki_settle 17 = .ok (.aload_n 0, 1) := by decide +kernel
theorem d_Ki_settle_18 : decode b_Ki_settle 18 = .ok (.getfield 35, 3) := by decide +kernel
theorem d_Ki_settle_21 : decode b_Ki_settle 21 = .ok (.iload_n 2, 1) := by decide +kernel
theorem d_Ki_settle_22 : decode b_Ki_settle 22 = .ok (.iaload, 1) := by decide +kernel
theorem d_Ki_settle_23 : decode b_Ki_settle 23 = .ok (.invokestatic 101, 3) := by decide +kernel
theorem d_Ki_settle_26 : decode b_Ki_settle 26 = .ok (.istore 4, 2) := by decide +kernel
theorem d_Ki_settle_28 : decode b_Ki_settle 28 = .ok (.iconst 0, 1) := by decide +kernel
theorem d_Ki_settle_29 : decode b_Ki_settle 29 = .ok (.istore 5, 2) := by decide +kernel
theorem d_Ki_settle_31 : decode b_Ki_settle 31 = .ok (.aload_n 0, 1) := by decide +kernel
theorem d_Ki_settle_32 : decode b_Ki_settle 32 = .ok (.getfield 32, 3) := by decide +kernel
theorem d_Ki_settle_35 : decode b_Ki_settle 35 = .ok (.iload_n 2, 1) := by decide +kernel
theorem d_Ki_settle_36 : decode b_Ki_settle 36 = .ok (.iaload, 1) := by decide +kernel
theorem d_Ki_settle_37 : decode b_Ki_settle 37 = .ok (.istore 6, 2) := by decide +kernel
theorem d_Ki_settle_39 : decode b_Ki_settle 39 = .ok (.iload 6, 2) := by decide +kernel
theorem d_Ki_settle_41 : decode b_Ki_settle 41 = .ok (.iload 4, 2) := by decide +kernel
theorem d_Ki_settle_43 : decode b_Ki_settle 43 = .ok (.if_icmp .ge 52, 3) := by decide +kernel
theorem d_Ki_settle_46 : decode b_Ki_settle 46 = .ok (.iload 5, 2) := by decide +kernel
theorem d_Ki_settle_48 : decode b_Ki_settle 48 = .ok (.aload_n 0, 1) := by decide +kernel
theorem d_Ki_settle_49 : decode b_Ki_settle 49 = .ok (.getfield 41, 3) := by decide +kernel
theorem d_Ki_settle_52 : decode b_Ki_settle 52 = .ok (.aload_n 0, 1) := by decide +kernel
theorem d_Ki_settle_53 : decode b_Ki_settle 53 = .ok (.getfield 26, 3) := by decide +kernel
theorem d_Ki_settle_56 : decode b_Ki_settle 56 = .ok (.iload 6, 2) := by decide +kernel
theorem d_Ki_settle_58 : decode b_Ki_settle 58 = .ok (.iaload, 1) := by decide +kernel
theorem d_Ki_settle_59 : decode b_Ki_settle 59 = .ok (.iaload, 1) := by decide +kernel
theorem d_Ki_settle_60 : decode b_Ki_settle 60 = .ok (.ior, 1) := by decide +kernel
theorem d_Ki_settle_61 : decode b_Ki_settle 61 = .ok (.istore 5, 2) := by decide +kernel
theorem d_Ki_settle_63 : decode b_Ki_settle 63 = .ok (.aload_n 0, 1) := by decide +kernel
theorem d_Ki_settle_64 : decode b_Ki_settle 64 = .ok (.getfield 41, 3) := by decide +kernel
theorem d_Ki_settle_67 : decode b_Ki_settle 67 = .ok (.aload_n 0, 1) := by decide +kernel
theorem d_Ki_settle_68 : decode b_Ki_settle 68 = .ok (.getfield 26, 3) := by decide +kernel
theorem d_Ki_settle_71 : decode b_Ki_settle 71 = .ok (.iload 6, 2) := by decide +kernel
theorem d_Ki_settle_73 : decode b_Ki_settle 73 = .ok (.iaload, 1) := by decide +kernel
theorem d_Ki_settle_74 : decode b_Ki_settle 74 = .ok (.iconst 0, 1) := by decide +kernel
theorem d_Ki_settle_75 : decode b_Ki_settle 75 = .ok (.iastore, 1) := by decide +kernel
theorem d_Ki_settle_76 : decode b_Ki_settle 76 = .ok (.aload_n 0, 1) := by decide +kernel
theorem d_Ki_settle_77 : decode b_Ki_settle 77 = .ok (.getfield 50, 3) := by decide +kernel
theorem d_Ki_settle_80 : decode b_Ki_settle 80 = .ok (.aload_n 0, 1) := by decide +kernel
theorem d_Ki_settle_81 : decode b_Ki_settle 81 = .ok (.getfield 26, 3) := by decide +kernel
theorem d_Ki_settle_84 : decode b_Ki_settle 84 = .ok (.iload 6, 2) := by decide +kernel
theorem d_Ki_settle_86 : decode b_Ki_settle 86 = .ok (.iaload, 1) := by decide +kernel
theorem d_Ki_settle_87 : decode b_Ki_settle 87 = .ok (.iconst 0, 1) := by decide +kernel
theorem d_Ki_settle_88 : decode b_Ki_settle 88 = .ok (.iastore, 1) := by decide +kernel
theorem d_Ki_settle_89 : decode b_Ki_settle 89 = .ok (.iinc 6 1, 3) := by decide +kernel
theorem d_Ki_settle_92 : decode b_Ki_settle 92 = .ok (.goto (-53), 3) := by decide +kernel
theorem d_Ki_settle_95 : decode b_Ki_settle 95 = .ok (.aload_n 0, 1) := by decide +kernel
theorem d_Ki_settle_96 : decode b_Ki_settle 96 = .ok (.getfield 38, 3) := by decide +kernel
theorem d_Ki_settle_99 : decode b_Ki_settle 99 = .ok (.iload_n 2, 1) := by decide +kernel
theorem d_Ki_settle_100 : decode b_Ki_settle 100 = .ok (.iconst 0, 1) := by decide +kernel
theorem d_Ki_settle_101 : decode b_Ki_settle 101 = .ok (.iastore, 1) := by decide +kernel
theorem d_Ki_settle_102 : decode b_Ki_settle 102 = .ok (.iconst 1, 1) := by decide +kernel
theorem d_Ki_settle_103 : decode b_Ki_settle 103 = .ok (.istore 6, 2) := by decide +kernel
theorem d_Ki_settle_105 : decode b_Ki_settle 105 = .ok (.iconst 0, 1) := by decide +kernel
theorem d_Ki_settle_106 : decode b_Ki_settle 106 = .ok (.istore 7, 2) := by decide +kernel
theorem d_Ki_settle_108 : decode b_Ki_settle 108 = .ok (.iload 7, 2) := by decide +kernel
theorem d_Ki_settle_110 : decode b_Ki_settle 110 = .ok (.aload_n 1, 1) := by decide +kernel
theorem d_Ki_settle_111 : decode b_Ki_settle 111 = .ok (.getfield 94, 3) := by decide +kernel
theorem d_Ki_settle_114 : decode b_Ki_settle 114 = .ok (.if_icmp .ge 40, 3) := by decide +kernel
theorem d_Ki_settle_117 : decode b_Ki_settle 117 = .ok (.iload 5, 2) := by decide +kernel
theorem d_Ki_settle_119 : decode b_Ki_settle 119 = .ok (.iload 7, 2) := by decide +kernel
theorem d_Ki_settle_121 : decode b_Ki_settle 121 = .ok (.ishr, 1) := by decide +kernel
theorem d_Ki_settle_122 : decode b_Ki_settle 122 = .ok (.iconst 1, 1) := by decide +kernel
theorem d_Ki_settle_123 : decode b_Ki_settle 123 = .ok (.iand, 1) := by decide +kernel
theorem d_Ki_settle_124 : decode b_Ki_settle 124 = .ok (.ifCond .eq 24, 3) := by decide +kernel
theorem d_Ki_settle_127 : decode b_Ki_settle 127 = .ok (.aload_n 0, 1) := by decide +kernel
theorem d_Ki_settle_128 : decode b_Ki_settle 128 = .ok (.aload_n 1, 1) := by decide +kernel
theorem d_Ki_settle_129 : decode b_Ki_settle 129 = .ok (.getfield 106, 3) := by decide +kernel
theorem d_Ki_settle_132 : decode b_Ki_settle 132 = .ok (.iload 7, 2) := by decide +kernel
theorem d_Ki_settle_134 : decode b_Ki_settle 134 = .ok (.aaload, 1) := by decide +kernel
theorem d_Ki_settle_135 : decode b_Ki_settle 135 = .ok (.aload_n 0, 1) := by decide +kernel
theorem d_Ki_settle_136 : decode b_Ki_settle 136 = .ok (.getfield 32, 3) := by decide +kernel
theorem d_Ki_settle_139 : decode b_Ki_settle 139 = .ok (.iload_n 2, 1) := by decide +kernel
theorem d_Ki_settle_140 : decode b_Ki_settle 140 = .ok (.iaload, 1) := by decide +kernel
theorem d_Ki_settle_141 : decode b_Ki_settle 141 = .ok (.iload 4, 2) := by decide +kernel
theorem d_Ki_settle_143 : decode b_Ki_settle 143 = .ok (.invokevirtual 110, 3) := by decide +kernel
theorem d_Ki_settle_146 : decode b_Ki_settle 146 = .ok (.istore 6, 2) := by decide +kernel
theorem d_Ki_settle_148 : decode b_Ki_settle 148 = .ok (.iinc 7 1, 3) := by decide +kernel
theorem d_Ki_settle_151 : decode b_Ki_settle 151 = .ok (.goto (-43), 3) := by decide +kernel
theorem d_Ki_settle_154 : decode b_Ki_settle 154 = .ok (.iload 6, 2) := by decide +kernel
theorem d_Ki_settle_156 : decode b_Ki_settle 156 = .ok (.iconst 1, 1) := by decide +kernel
theorem d_Ki_settle_157 : decode b_Ki_settle 157 = .ok (.if_icmp .le 25, 3) := by decide +kernel
theorem d_Ki_settle_160 : decode b_Ki_settle 160 = .ok (.aload_n 0, 1) := by decide +kernel
theorem d_Ki_settle_161 : decode b_Ki_settle 161 = .ok (.aload_n 0, 1) := by decide +kernel
theorem d_Ki_settle_162 : decode b_Ki_settle 162 = .ok (.getfield 32, 3) := by decide +kernel
theorem d_Ki_settle_165 : decode b_Ki_settle 165 = .ok (.iload_n 2, 1) := by decide +kernel
theorem d_Ki_settle_166 : decode b_Ki_settle 166 = .ok (.iaload, 1) := by decide +kernel
theorem d_Ki_settle_167 : decode b_Ki_settle 167 = .ok (.iload_n 3, 1) := by decide +kernel
theorem d_Ki_settle_168 : decode b_Ki_settle 168 = .ok (.iload 6, 2) := by decide +kernel
theorem d_Ki_settle_170 : decode b_Ki_settle 170 = .ok (.invokevirtual 114, 3) := by decide +kernel
theorem d_Ki_settle_173 : decode b_Ki_settle 173 = .ok (.aload_n 0, 1) := by decide +kernel
theorem d_Ki_settle_174 : decode b_Ki_settle 174 = .ok (.aload_n 1, 1) := by decide +kernel
theorem d_Ki_settle_175 : decode b_Ki_settle 175 = .ok (.iload_n 2, 1) := by decide +kernel
theorem d_Ki_settle_176 : decode b_Ki_settle 176 = .ok (.iload_n 3, 1) := by decide +kernel
theorem d_Ki_settle_177 : decode b_Ki_settle 177 = .ok (.iload 6, 2) := by decide +kernel
theorem d_Ki_settle_179 : decode b_Ki_settle 179 = .ok (.invokevirtual 118, 3) := by decide +kernel
theorem d_Ki_settle_182 : decode b_Ki_settle 182 = .ok (.return_, 1) := by decide +kernel
set_option maxRecDepth 100000 in
set_option maxHeartbeats 4000000 in
theorem S_Ki_settle_0 {G : Gc} {M : Mc} {Q : State → Prop} {K : Option Value → Hp → Prop} (hG : gok G) (hM : mok G M r_Ki_settle Q K) (v0 : Nat) (v1 : Nat) (v2 : Int32) (h : Hp) (F : kT h v0 = 10 ∧ kR h v0 6 = some (rf h v0 6) ∧ (kT h (rf h v0 6) = 50 ∧ vp_in v2 (kN h (rf h v0 6)) ∧ (kT h v0 = 10 ∧ kR h v0 8 = some (rf h v0 8) ∧ (kT h (rf h v0 8) = 50 ∧ vp_in v2 (kN h (rf h v0 8)) ∧ (kT h v0 = 10 ∧ kR h v0 7 = some (rf h v0 7) ∧ (kT h (rf h v0 7) = 50 ∧ vp_in v2 (kN h (rf h v0 7)) ∧ (∀ z1 : Int32, z1 = (if (kI h (rf h v0 7) (Int32.toNatClampNeg v2)) < (((kI h (rf h v0 6) (Int32.toNatClampNeg v2)) + (kI h (rf h v0 8) (Int32.toNatClampNeg v2))) + 1) then (kI h (rf h v0 7) (Int32.toNatClampNeg v2)) else (((kI h (rf h v0 6) (Int32.toNatClampNeg v2)) + (kI h (rf h v0 8) (Int32.toNatClampNeg v2))) + 1)) → (kT h v0 = 10 ∧ kR h v0 6 = some (rf h v0 6) ∧ (kT h (rf h v0 6) = 50 ∧ vp_in v2 (kN h (rf h v0 6)) ∧ X G M Q 39 [(0, .ref v0), (1, .ref v1), (2, .int v2), (3, .int ((kI h (rf h v0 6) (Int32.toNatClampNeg v2)) + (kI h (rf h v0 8) (Int32.toNatClampNeg v2)))), (4, .int z1), (5, .int 0), (6, .int (kI h (rf h v0 6) (Int32.toNatClampNeg v2)))] [] h))))))))) : X G M Q 0 [(0, .ref v0), (1, .ref v1), (2, .int v2)] [] h := by
  refine x_aload_n hM d_Ki_settle_0 rfl 0 rfl ?_
  obtain ⟨c16, F⟩ := F
  obtain ⟨c17, F⟩ := F
  refine x_getr hG hM ck_Ki 6 (Nat.le_of_ble_eq_true rfl) rfl rfl w_331 rfl d_Ki_settle_1 c16 c17 ?_
  refine x_iload_n hM d_Ki_settle_4 rfl 2 rfl ?_
  obtain ⟨c14, F⟩ := F
  obtain ⟨c15, F⟩ := F
  refine x_iaload hG hM d_Ki_settle_5 c14 c15 ?_
  refine x_aload_n hM d_Ki_settle_6 rfl 0 rfl ?_
  obtain ⟨c12, F⟩ := F
  obtain ⟨c13, F⟩ := F
  refine x_getr hG hM ck_Ki 8 (Nat.le_of_ble_eq_true rfl) rfl rfl w_333 rfl d_Ki_settle_7 c12 c13 ?_
  refine x_iload_n hM d_Ki_settle_10 rfl 2 rfl ?_
  obtain ⟨c10, F⟩ := F
  obtain ⟨c11, F⟩ := F
  refine x_iaload hG hM d_Ki_settle_11 c10 c11 ?_
  refine x_iadd hM d_Ki_settle_12 ?_
  refine x_istore_n (lv2 := [(3, .int ((kI h (rf h v0 6) (Int32.toNatClampNeg v2)) + (kI h (rf h v0 8) (Int32.toNatClampNeg v2)))), (0, .ref v0), (1, .ref v1), (2, .int v2)]) hM d_Ki_settle_13 rfl (Nat.le_of_ble_eq_true rfl) rfl ?_
  refine x_iload_n hM d_Ki_settle_14 rfl 0 rfl ?_
  refine x_iconst (v := 1) hM d_Ki_settle_15 (by decide) ?_
  refine x_iadd hM d_Ki_settle_16 ?_
  refine x_aload_n hM d_Ki_settle_17 rfl 1 rfl ?_
  obtain ⟨c8, F⟩ := F
  obtain ⟨c9, F⟩ := F
  refine x_getr hG hM ck_Ki 7 (Nat.le_of_ble_eq_true rfl) rfl rfl w_332 rfl d_Ki_settle_18 c8 c9 ?_
  refine x_iload_n hM d_Ki_settle_21 rfl 3 rfl ?_
  obtain ⟨c6, F⟩ := F
  obtain ⟨c7, F⟩ := F
  refine x_iaload hG hM d_Ki_settle_22 c6 c7 ?_
  obtain ⟨z1, ez1⟩ : ∃ z : Int32, z = (if (kI h (rf h v0 7) (Int32.toNatClampNeg v2)) < (((kI h (rf h v0 6) (Int32.toNatClampNeg v2)) + (kI h (rf h v0 8) (Int32.toNatClampNeg v2))) + 1) then (kI h (rf h v0 7) (Int32.toNatClampNeg v2)) else (((kI h (rf h v0 6) (Int32.toNatClampNeg v2)) + (kI h (rf h v0 8) (Int32.toNatClampNeg v2))) + 1)) := ⟨_, rfl⟩
  replace F := F z1 ez1
  refine x_mmin hG hM rfl w_720 w_721 w_14 w_mmin (Nat.le_of_ble_eq_true rfl) (Nat.le_of_ble_eq_true rfl) d_Ki_settle_23 ?_
  rw [← ez1]
  clear ez1
  refine x_istore (lv2 := [(4, .int z1), (3, .int ((kI h (rf h v0 6) (Int32.toNatClampNeg v2)) + (kI h (rf h v0 8) (Int32.toNatClampNeg v2)))), (0, .ref v0), (1, .ref v1), (2, .int v2)]) hM d_Ki_settle_26 (Nat.le_of_ble_eq_true rfl) rfl ?_
  refine x_iconst (v := 0) hM d_Ki_settle_28 (by decide) ?_
  refine x_istore (lv2 := [(5, .int 0), (4, .int z1), (3, .int ((kI h (rf h v0 6) (Int32.toNatClampNeg v2)) + (kI h (rf h v0 8) (Int32.toNatClampNeg v2)))), (0, .ref v0), (1, .ref v1), (2, .int v2)]) hM d_Ki_settle_29 (Nat.le_of_ble_eq_true rfl) rfl ?_
  refine x_aload_n hM d_Ki_settle_31 rfl 3 rfl ?_
  obtain ⟨c4, F⟩ := F
  obtain ⟨c5, F⟩ := F
  refine x_getr hG hM ck_Ki 6 (Nat.le_of_ble_eq_true rfl) rfl rfl w_331 rfl d_Ki_settle_32 c4 c5 ?_
  refine x_iload_n hM d_Ki_settle_35 rfl 5 rfl ?_
  obtain ⟨c2, F⟩ := F
  obtain ⟨c3, F⟩ := F
  refine x_iaload hG hM d_Ki_settle_36 c2 c3 ?_
  refine x_istore (lv2 := [(6, .int (kI h (rf h v0 6) (Int32.toNatClampNeg v2))), (5, .int 0), (4, .int z1), (3, .int ((kI h (rf h v0 6) (Int32.toNatClampNeg v2)) + (kI h (rf h v0 8) (Int32.toNatClampNeg v2)))), (0, .ref v0), (1, .ref v1), (2, .int v2)]) hM d_Ki_settle_37 (Nat.le_of_ble_eq_true rfl) rfl ?_
  refine x_sub [4, 5, 6, 3, 2, 1, 0] rfl ?_
  exact F
set_option maxRecDepth 100000 in
set_option maxHeartbeats 4000000 in
theorem S_Ki_settle_39 {G : Gc} {M : Mc} {Q : State → Prop} {K : Option Value → Hp → Prop} (hG : gok G) (hM : mok G M r_Ki_settle Q K) (v0 : Nat) (v1 : Nat) (v2 : Int32) (v3 : Int32) (v4 : Int32) (v5 : Int32) (v6 : Int32) (h : Hp) (F : (v4 ≤ v6 → (kT h v0 = 10 ∧ kR h v0 8 = some (rf h v0 8) ∧ (kT h (rf h v0 8) = 50 ∧ vp_in v2 (kN h (rf h v0 8)) ∧ (∀ h1 : Hp, h1 = wI h (rf h v0 8) (Int32.toNatClampNeg v2) 0 → X G M Q 108 [(0, .ref v0), (1, .ref v1), (2, .int v2), (3, .int v3), (4, .int v4), (5, .int v5), (6, .int 1), (7, .int 0)] [] h1)))) ∧ (¬ v4 ≤ v6 → (kT h v0 = 10 ∧ kR h v0 9 = some (rf h v0 9) ∧ (kT h v0 = 10 ∧ kR h v0 4 = some (rf h v0 4) ∧ (kT h (rf h v0 4) = 50 ∧ vp_in v6 (kN h (rf h v0 4)) ∧ (kT h (rf h v0 9) = 50 ∧ vp_in (kI h (rf h v0 4) (Int32.toNatClampNeg v6)) (kN h (rf h v0 9)) ∧ (kT h v0 = 10 ∧ kR h v0 9 = some (rf h v0 9) ∧ (kT h v0 = 10 ∧ kR h v0 4 = some (rf h v0 4) ∧ (kT h (rf h v0 4) = 50 ∧ vp_in v6 (kN h (rf h v0 4)) ∧ (kT h (rf h v0 9) = 50 ∧ vp_in (kI h (rf h v0 4) (Int32.toNatClampNeg v6)) (kN h (rf h v0 9)) ∧ (∀ h6 : Hp, h6 = wI h (rf h v0 9) (Int32.toNatClampNeg (kI h (rf h v0 4) (Int32.toNatClampNeg v6))) 0 → (kT h6 v0 = 10 ∧ kR h6 v0 12 = some (rf h6 v0 12) ∧ (kT h6 v0 = 10 ∧ kR h6 v0 4 = some (rf h6 v0 4) ∧ (kT h6 (rf h6 v0 4) = 50 ∧ vp_in v6 (kN h6 (rf h6 v0 4)) ∧ (kT h6 (rf h6 v0 12) = 50 ∧ vp_in (kI h6 (rf h6 v0 4) (Int32.toNatClampNeg v6)) (kN h6 (rf h6 v0 12)) ∧ (∀ h7 : Hp, h7 = wI h6 (rf h6 v0 12) (Int32.toNatClampNeg (kI h6 (rf h6 v0 4) (Int32.toNatClampNeg v6))) 0 → X G M Q 39 [(0, .ref v0), (1, .ref v1), (2, .int v2), (3, .int v3), (4, .int v4), (5, .int (v5 ||| (kI h (rf h v0 9) (Int32.toNatClampNeg (kI h (rf h v0 4) (Int32.toNatClampNeg v6)))))), (6, .int (v6 + 1))] [] h7)))))))))))))))) : X G M Q 39 [(0, .ref v0), (1, .ref v1), (2, .int v2), (3, .int v3), (4, .int v4), (5, .int v5), (6, .int v6)] [] h := by
  refine x_iload hM d_Ki_settle_39 6 rfl ?_
  refine x_iload hM d_Ki_settle_41 4 rfl ?_
  refine x_icmp_ge (tgt := 95) hM d_Ki_settle_43 (by decide) (fun q32 => ?_) (fun q32 => ?_)
  · replace F := F.1 q32
    refine x_aload_n hM d_Ki_settle_95 rfl 0 rfl ?_
    obtain ⟨c4, F⟩ := F
    obtain ⟨c5, F⟩ := F
    refine x_getr hG hM ck_Ki 8 (Nat.le_of_ble_eq_true rfl) rfl rfl w_333 rfl d_Ki_settle_96 c4 c5 ?_
    refine x_iload_n hM d_Ki_settle_99 rfl 2 rfl ?_
    refine x_iconst (v := 0) hM d_Ki_settle_100 (by decide) ?_
    obtain ⟨c2, F⟩ := F
    obtain ⟨c3, F⟩ := F
    obtain ⟨h1, eh1⟩ : ∃ z : Hp, z = wI h (rf h v0 8) (Int32.toNatClampNeg v2) 0 := ⟨_, rfl⟩
    replace F := F h1 eh1
    refine x_iastore hG hM d_Ki_settle_101 c2 c3 ?_
    rw [← eh1]
    clear eh1
    refine x_iconst (v := 1) hM d_Ki_settle_102 (by decide) ?_
    refine x_istore (lv2 := [(6, .int 1), (0, .ref v0), (1, .ref v1), (2, .int v2), (3, .int v3), (4, .int v4), (5, .int v5)]) hM d_Ki_settle_103 (Nat.le_of_ble_eq_true rfl) rfl ?_
    refine x_iconst (v := 0) hM d_Ki_settle_105 (by decide) ?_
    refine x_istore (lv2 := [(7, .int 0), (6, .int 1), (0, .ref v0), (1, .ref v1), (2, .int v2), (3, .int v3), (4, .int v4), (5, .int v5)]) hM d_Ki_settle_106 (Nat.le_of_ble_eq_true rfl) rfl ?_
    refine x_sub [2, 3, 4, 5, 6, 7, 1, 0] rfl ?_
    exact F
  · replace F := F.2 q32
    refine x_iload hM d_Ki_settle_46 5 rfl ?_
    refine x_aload_n hM d_Ki_settle_48 rfl 0 rfl ?_
    obtain ⟨c30, F⟩ := F
    obtain ⟨c31, F⟩ := F
    refine x_getr hG hM ck_Ki 9 (Nat.le_of_ble_eq_true rfl) rfl rfl w_334 rfl d_Ki_settle_49 c30 c31 ?_
    refine x_aload_n hM d_Ki_settle_52 rfl 0 rfl ?_
    obtain ⟨c28, F⟩ := F
    obtain ⟨c29, F⟩ := F
    refine x_getr hG hM ck_Ki 4 (Nat.le_of_ble_eq_true rfl) rfl rfl w_329 rfl d_Ki_settle_53 c28 c29 ?_
    refine x_iload hM d_Ki_settle_56 6 rfl ?_
    obtain ⟨c26, F⟩ := F
    obtain ⟨c27, F⟩ := F
    refine x_iaload hG hM d_Ki_settle_58 c26 c27 ?_
    obtain ⟨c24, F⟩ := F
    obtain ⟨c25, F⟩ := F
    refine x_iaload hG hM d_Ki_settle_59 c24 c25 ?_
    refine x_ior hM d_Ki_settle_60 ?_
    refine x_istore (lv2 := [(5, .int (v5 ||| (kI h (rf h v0 9) (Int32.toNatClampNeg (kI h (rf h v0 4) (Int32.toNatClampNeg v6)))))), (0, .ref v0), (1, .ref v1), (2, .int v2), (3, .int v3), (4, .int v4), (6, .int v6)]) hM d_Ki_settle_61 (Nat.le_of_ble_eq_true rfl) rfl ?_
    refine x_aload_n hM d_Ki_settle_63 rfl 1 rfl ?_
    obtain ⟨c22, F⟩ := F
    obtain ⟨c23, F⟩ := F
    refine x_getr hG hM ck_Ki 9 (Nat.le_of_ble_eq_true rfl) rfl rfl w_334 rfl d_Ki_settle_64 c22 c23 ?_
    refine x_aload_n hM d_Ki_settle_67 rfl 1 rfl ?_
    obtain ⟨c20, F⟩ := F
    obtain ⟨c21, F⟩ := F
    refine x_getr hG hM ck_Ki 4 (Nat.le_of_ble_eq_true rfl) rfl rfl w_329 rfl d_Ki_settle_68 c20 c21 ?_
    refine x_iload hM d_Ki_settle_71 6 rfl ?_
    obtain ⟨c18, F⟩ := F
    obtain ⟨c19, F⟩ := F
    refine x_iaload hG hM d_Ki_settle_73 c18 c19 ?_
    refine x_iconst (v := 0) hM d_Ki_settle_74 (by decide) ?_
    obtain ⟨c16, F⟩ := F
    obtain ⟨c17, F⟩ := F
    obtain ⟨h6, eh6⟩ : ∃ z : Hp, z = wI h (rf h v0 9) (Int32.toNatClampNeg (kI h (rf h v0 4) (Int32.toNatClampNeg v6))) 0 := ⟨_, rfl⟩
    replace F := F h6 eh6
    refine x_iastore hG hM d_Ki_settle_75 c16 c17 ?_
    rw [← eh6]
    clear eh6
    refine x_aload_n hM d_Ki_settle_76 rfl 1 rfl ?_
    obtain ⟨c14, F⟩ := F
    obtain ⟨c15, F⟩ := F
    refine x_getr hG hM ck_Ki 12 (Nat.le_of_ble_eq_true rfl) rfl rfl w_337 rfl d_Ki_settle_77 c14 c15 ?_
    refine x_aload_n hM d_Ki_settle_80 rfl 1 rfl ?_
    obtain ⟨c12, F⟩ := F
    obtain ⟨c13, F⟩ := F
    refine x_getr hG hM ck_Ki 4 (Nat.le_of_ble_eq_true rfl) rfl rfl w_329 rfl d_Ki_settle_81 c12 c13 ?_
    refine x_iload hM d_Ki_settle_84 6 rfl ?_
    obtain ⟨c10, F⟩ := F
    obtain ⟨c11, F⟩ := F
    refine x_iaload hG hM d_Ki_settle_86 c10 c11 ?_
    refine x_iconst (v := 0) hM d_Ki_settle_87 (by decide) ?_
    obtain ⟨c8, F⟩ := F
    obtain ⟨c9, F⟩ := F
    obtain ⟨h7, eh7⟩ : ∃ z : Hp, z = wI h6 (rf h6 v0 12) (Int32.toNatClampNeg (kI h6 (rf h6 v0 4) (Int32.toNatClampNeg v6))) 0 := ⟨_, rfl⟩
    replace F := F h7 eh7
    refine x_iastore hG hM d_Ki_settle_88 c8 c9 ?_
    rw [← eh7]
    clear eh7
    refine x_iinc (v := (v6 + 1)) (lv2 := [(6, .int (v6 + 1)), (5, .int (v5 ||| (kI h (rf h v0 9) (Int32.toNatClampNeg (kI h (rf h v0 4) (Int32.toNatClampNeg v6)))))), (0, .ref v0), (1, .ref v1), (2, .int v2), (3, .int v3), (4, .int v4)]) hM d_Ki_settle_89 (j := 6) rfl rfl (Nat.le_of_ble_eq_true rfl) rfl ?_
    refine x_goto (tgt := 39) hM d_Ki_settle_92 (by decide) ?_
    refine x_sub [2, 3, 4, 5, 6, 1, 0] rfl ?_
    exact F
set_option maxRecDepth 100000 in
set_option maxHeartbeats 4000000 in
theorem S_Ki_settle_108 {G : Gc} {M : Mc} {Q : State → Prop} {K : Option Value → Hp → Prop} (hG : gok G) (hM : mok G M r_Ki_settle Q K) (v0 : Nat) (v1 : Nat) (v2 : Int32) (v3 : Int32) (v4 : Int32) (v5 : Int32) (v6 : Int32) (v7 : Int32) (h : Hp) (F : kT h v1 = 2 ∧ (((kI h v1 2) ≤ v7 → ((v6 ≤ 1 → K none h) ∧ (¬ v6 ≤ 1 → (kT h v0 = 10 ∧ kR h v0 6 = some (rf h v0 6) ∧ (kT h (rf h v0 6) = 50 ∧ vp_in v2 (kN h (rf h v0 6)) ∧ (kT h v0 = 10 ∧ sem G r_Ki_sortByGroup [.ref v0, .int (kI h (rf h v0 6) (Int32.toNatClampNeg v2)), .int v3, .int v6] h (fun u2 h1 => u2 = none ∧ (kT h1 v0 = 10 ∧ sem G r_Ki_divide [.ref v0, .ref v1, .int v2, .int v3, .int v6] h1 (fun u4 h3 => u4 = none ∧ K none h3))))))))) ∧ (¬ (kI h v1 2) ≤ v7 → ((((v5 >>> (v7 &&& 31)) &&& 1) = 0 → X G M Q 108 [(0, .ref v0), (1, .ref v1), (2, .int v2), (3, .int v3), (4, .int v4), (5, .int v5), (6, .int v6), (7, .int (v7 + 1))] [] h) ∧ (¬ ((v5 >>> (v7 &&& 31)) &&& 1) = 0 → (kT h v1 = 2 ∧ kR h v1 5 = some (rf h v1 5) ∧ (kT h (rf h v1 5) = 53 ∧ vp_in v7 (kN h (rf h v1 5)) ∧ kR h (rf h v1 5) (Int32.toNatClampNeg v7) = some (rf h (rf h v1 5) (Int32.toNatClampNeg v7)) ∧ (kT h v0 = 10 ∧ kR h v0 6 = some (rf h v0 6) ∧ (kT h (rf h v0 6) = 50 ∧ vp_in v2 (kN h (rf h v0 6)) ∧ (kT h v0 = 10 ∧ sem G r_Ki_regroup [.ref v0, .ref (rf h (rf h v1 5) (Int32.toNatClampNeg v7)), .int (kI h (rf h v0 6) (Int32.toNatClampNeg v2)), .int v4] h (fun u13 h12 => ∃ x14 : Int32, u13 = some (.int x14) ∧ X G M Q 108 [(0, .ref v0), (1, .ref v1), (2, .int v2), (3, .int v3), (4, .int v4), (5, .int v5), (6, .int x14), (7, .int (v7 + 1))] [] h12))))))))))) : X G M Q 108 [(0, .ref v0), (1, .ref v1), (2, .int v2), (3, .int v3), (4, .int v4), (5, .int v5), (6, .int v6), (7, .int v7)] [] h := by
  refine x_iload hM d_Ki_settle_108 7 rfl ?_
  refine x_aload_n hM d_Ki_settle_110 rfl 1 rfl ?_
  obtain ⟨c27, F⟩ := F
  refine x_geti hG hM ck_Wo 2 (Nat.le_of_ble_eq_true rfl) rfl rfl w_137 rfl d_Ki_settle_111 c27 ?_
  refine x_icmp_ge (tgt := 154) hM d_Ki_settle_114 (by decide) (fun q26 => ?_) (fun q26 => ?_)
  · replace F := F.1 q26
    refine x_iload hM d_Ki_settle_154 6 rfl ?_
    refine x_iconst (v := 1) hM d_Ki_settle_156 (by decide) ?_
    refine x_icmp_le (tgt := 182) hM d_Ki_settle_157 (by decide) (fun q11 => ?_) (fun q11 => ?_)
    · replace F := F.1 q11
      exact x_return hM d_Ki_settle_182 rfl F
    · replace F := F.2 q11
      refine x_aload_n hM d_Ki_settle_160 rfl 0 rfl ?_
      refine x_aload_n hM d_Ki_settle_161 rfl 0 rfl ?_
      obtain ⟨c9, F⟩ := F
      obtain ⟨c10, F⟩ := F
      refine x_getr hG hM ck_Ki 6 (Nat.le_of_ble_eq_true rfl) rfl rfl w_331 rfl d_Ki_settle_162 c9 c10 ?_
      refine x_iload_n hM d_Ki_settle_165 rfl 2 rfl ?_
      obtain ⟨c7, F⟩ := F
      obtain ⟨c8, F⟩ := F
      refine x_iaload hG hM d_Ki_settle_166 c7 c8 ?_
      refine x_iload_n hM d_Ki_settle_167 rfl 3 rfl ?_
      refine x_iload hM d_Ki_settle_168 6 rfl ?_
      obtain ⟨c6, F⟩ := F
      refine x_callV hG hM (r' := r_Ki_sortByGroup) (ci := 9) [.int (kI h (rf h v0 6) (Int32.toNatClampNeg v2)), .int v3, .int v6] rfl rfl (Nat.le_of_ble_eq_true rfl) yk_Ki_sortByGroup ⟨Nat.le_of_ble_eq_true rfl, Nat.le_of_ble_eq_true rfl⟩ w_741 w_743 ws_Ki_sortByGroup rfl rfl (Nat.le_of_ble_eq_true rfl) d_Ki_settle_170 c6 (sem_mono F ?_)
      intro u2 h1 F
      obtain ⟨rfl, F⟩ := F
      refine x_aload_n hM d_Ki_settle_173 rfl 0 rfl ?_
      refine x_aload_n hM d_Ki_settle_174 rfl 1 rfl ?_
      refine x_iload_n hM d_Ki_settle_175 rfl 2 rfl ?_
      refine x_iload_n hM d_Ki_settle_176 rfl 3 rfl ?_
      refine x_iload hM d_Ki_settle_177 6 rfl ?_
      obtain ⟨c5, F⟩ := F
      refine x_callV hG hM (r' := r_Ki_divide) (ci := 9) [.ref v1, .int v2, .int v3, .int v6] rfl rfl (Nat.le_of_ble_eq_true rfl) yk_Ki_divide ⟨Nat.le_of_ble_eq_true rfl, Nat.le_of_ble_eq_true rfl⟩ w_745 w_747 ws_Ki_divide rfl rfl (Nat.le_of_ble_eq_true rfl) d_Ki_settle_179 c5 (sem_mono F ?_)
      intro u4 h3 F
      obtain ⟨rfl, F⟩ := F
      exact x_return hM d_Ki_settle_182 rfl F
  · replace F := F.2 q26
    refine x_iload hM d_Ki_settle_117 5 rfl ?_
    refine x_iload hM d_Ki_settle_119 7 rfl ?_
    refine x_ishr hM d_Ki_settle_121 ?_
    refine x_iconst (v := 1) hM d_Ki_settle_122 (by decide) ?_
    refine x_iand hM d_Ki_settle_123 ?_
    refine x_if_eq (tgt := 148) hM d_Ki_settle_124 (by decide) (fun q25 => ?_) (fun q25 => ?_)
    · replace F := F.1 q25
      refine x_iinc (v := (v7 + 1)) (lv2 := [(7, .int (v7 + 1)), (0, .ref v0), (1, .ref v1), (2, .int v2), (3, .int v3), (4, .int v4), (5, .int v5), (6, .int v6)]) hM d_Ki_settle_148 (j := 7) rfl rfl (Nat.le_of_ble_eq_true rfl) rfl ?_
      refine x_goto (tgt := 108) hM d_Ki_settle_151 (by decide) ?_
      refine x_sub [1, 2, 3, 4, 5, 6, 7, 0] rfl ?_
      exact F
    · replace F := F.2 q25
      refine x_aload_n hM d_Ki_settle_127 rfl 0 rfl ?_
      refine x_aload_n hM d_Ki_settle_128 rfl 1 rfl ?_
      obtain ⟨c23, F⟩ := F
      obtain ⟨c24, F⟩ := F
      refine x_getr hG hM ck_Wo 5 (Nat.le_of_ble_eq_true rfl) rfl rfl w_147 rfl d_Ki_settle_129 c23 c24 ?_
      refine x_iload hM d_Ki_settle_132 7 rfl ?_
      obtain ⟨c20, F⟩ := F
      obtain ⟨c21, F⟩ := F
      obtain ⟨c22, F⟩ := F
      refine x_aaload hG hM 53 rfl (Nat.le_of_ble_eq_true rfl) d_Ki_settle_134 c20 c21 c22 ?_
      refine x_aload_n hM d_Ki_settle_135 rfl 0 rfl ?_
      obtain ⟨c18, F⟩ := F
      obtain ⟨c19, F⟩ := F
      refine x_getr hG hM ck_Ki 6 (Nat.le_of_ble_eq_true rfl) rfl rfl w_331 rfl d_Ki_settle_136 c18 c19 ?_
      refine x_iload_n hM d_Ki_settle_139 rfl 2 rfl ?_
      obtain ⟨c16, F⟩ := F
      obtain ⟨c17, F⟩ := F
      refine x_iaload hG hM d_Ki_settle_140 c16 c17 ?_
      refine x_iload hM d_Ki_settle_141 4 rfl ?_
      obtain ⟨c15, F⟩ := F
      refine x_callV hG hM (r' := r_Ki_regroup) (ci := 9) [.ref (rf h (rf h v1 5) (Int32.toNatClampNeg v7)), .int (kI h (rf h v0 6) (Int32.toNatClampNeg v2)), .int v4] rfl rfl (Nat.le_of_ble_eq_true rfl) yk_Ki_regroup ⟨Nat.le_of_ble_eq_true rfl, Nat.le_of_ble_eq_true rfl⟩ w_723 w_725 ws_Ki_regroup rfl rfl (Nat.le_of_ble_eq_true rfl) d_Ki_settle_143 c15 (sem_mono F ?_)
      intro u13 h12 F
      obtain ⟨x14, rfl, F⟩ := F
      refine x_istore (lv2 := [(6, .int x14), (0, .ref v0), (1, .ref v1), (2, .int v2), (3, .int v3), (4, .int v4), (5, .int v5), (7, .int v7)]) hM d_Ki_settle_146 (Nat.le_of_ble_eq_true rfl) rfl ?_
      refine x_iinc (v := (v7 + 1)) (lv2 := [(7, .int (v7 + 1)), (6, .int x14), (0, .ref v0), (1, .ref v1), (2, .int v2), (3, .int v3), (4, .int v4), (5, .int v5)]) hM d_Ki_settle_148 (j := 7) rfl rfl (Nat.le_of_ble_eq_true rfl) rfl ?_
      refine x_goto (tgt := 108) hM d_Ki_settle_151 (by decide) ?_
      refine x_sub [2, 3, 4, 5, 6, 7, 1, 0] rfl ?_
      exact F
