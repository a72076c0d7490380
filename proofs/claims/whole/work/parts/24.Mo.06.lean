theorem d_Mo_backward_0 : decode b_Mo_backward 0 = .ok (.aload_n 0, 1) := by decide +kernel
theorem d_Mo_backward_1 : decode b_Mo_backward 1 = .ok (.aload_n 0, 1) := by decide +kernel
theorem d_Mo_backward_2 : decode b_Mo_backward 2 = .ok (.getfield 54, 3) := by decide +kernel
theorem d_Mo_backward_5 : decode b_Mo_backward 5 = .ok (.invokevirtual 172, 3) := by decide +kernel
theorem d_Mo_backward_8 : decode b_Mo_backward 8 = .ok (.istore_n 1, 1) := by decide +kernel
theorem d_Mo_backward_9 : decode b_Mo_backward 9 = .ok (.iconst 0, 1) := by decide +kernel
theorem d_Mo_backward_10 : decode b_Mo_backward 10 = .ok (.istore_n 2, 1) := by decide +kernel
theorem d_Mo_backward_11 : decode b_Mo_backward 11 = .ok (.iload_n 2, 1) := by decide +kernel
theorem d_Mo_backward_12 : decode b_Mo_backward 12 = .ok (.iload_n 1, 1) := by decide +kernel
theorem d_Mo_backward_13 : decode b_Mo_backward 13 = .ok (.if_icmp .ge 89, 3) := by decide +kernel
theorem d_Mo_backward_16 : decode b_Mo_backward 16 = .ok (.aload_n 0, 1) := by decide +kernel
theorem d_Mo_backward_17 : decode b_Mo_backward 17 = .ok (.getfield 42, 3) := by decide +kernel
theorem d_Mo_backward_20 : decode b_Mo_backward 20 = .ok (.aload_n 0, 1) := by decide +kernel
theorem d_Mo_backward_21 : decode b_Mo_backward 21 = .ok (.getfield 63, 3) := by decide +kernel
theorem d_Mo_backward_24 : decode b_Mo_backward 24 = .ok (.iload_n 2, 1) := by decide +kernel
theorem d_Mo_backward_25 : decode b_Mo_backward 25 = .ok (.iaload, 1) := by decide +kernel
theorem d_Mo_backward_26 : decode b_Mo_backward 26 = .ok (.iaload, 1) := by decide +kernel
theorem d_Mo_backward_27 : decode b_Mo_backward 27 = .ok (.istore_n 3, 1) := by decide +kernel
theorem d_Mo_backward_28 : decode b_Mo_backward 28 = .ok (.iload_n 3, 1) := by decide +kernel
theorem d_Mo_backward_29 : decode b_Mo_backward 29 = .ok (.iconst (-1), 1) := by decide +kernel
theorem d_Mo_backward_30 : decode b_Mo_backward 30 = .ok (.if_icmp .eq 66, 3) := by decide +kernel
theorem d_Mo_backward_33 : decode b_Mo_backward 33 = .ok (.aload_n 0, 1) := by decide +kernel
theorem d_Mo_backward_34 : decode b_Mo_backward 34 = .ok (.getfield 45, 3) := by decide +kernel
theorem d_Mo_backward_37 : decode b_Mo_backward 37 = .ok (.iload_n 3, 1) := by decide +kernel
theorem d_Mo_backward_38 : decode b_Mo_backward 38 = .ok (.iaload, 1) := by decide +kernel
theorem d_Mo_backward_39 : decode b_Mo_backward 39 = .ok (.bipush 36, 2) := by decide +kernel
theorem d_Mo_backward_41 : decode b_Mo_backward 41 = .ok (.idiv, 1) := by decide +kernel
theorem d_Mo_backward_42 : decode b_Mo_backward 42 = .ok (.istore 4, 2) := by decide +kernel
theorem d_Mo_backward_44 : decode b_Mo_backward 44 = .ok (.aload_n 0, 1) := by decide +kernel
theorem d_Mo_backward_45 : decode b_Mo_backward 45 = .ok (.getfield 54, 3) := by decide +kernel
theorem d_Mo_backward_48 : decode b_Mo_backward 48 = .ok (.iload 4, 2) := by decide +kernel
theorem d_Mo_backward_50 : decode b_Mo_backward 50 = .ok (.iaload, 1) := by decide +kernel
theorem d_Mo_backward_51 : decode b_Mo_backward 51 = .ok (.iconst (-1), 1) := by decide +kernel
theorem d_Mo_backward_52 : decode b_Mo_backward 52 = .ok (.if_icmp .ne 34, 3) := by decide +kernel
theorem d_Mo_backward_55 : decode b_Mo_backward 55 = .ok (.aload_n 0, 1) := by decide +kernel
theorem d_Mo_backward_56 : decode b_Mo_backward 56 = .ok (.getfield 54, 3) := by decide +kernel
theorem d_Mo_backward_59 : decode b_Mo_backward 59 = .ok (.iload 4, 2) := by decide +kernel
theorem d_Mo_backward_61 : decode b_Mo_backward 61 = .ok (.aload_n 0, 1) := by decide +kernel
theorem d_Mo_backward_62 : decode b_Mo_backward 62 = .ok (.getfield 54, 3) := by decide +kernel
theorem d_Mo_backward_65 : decode b_Mo_backward 65 = .ok (.aload_n 0, 1) := by decide +kernel
theorem d_Mo_backward_66 : decode b_Mo_backward 66 = .ok (.getfield 63, 3) := by decide +kernel
theorem d_Mo_backward_69 : decode b_Mo_backward 69 = .ok (.iload_n 2, 1) := by decide +kernel
theorem d_Mo_backward_70 : decode b_Mo_backward 70 = .ok (.iaload, 1) := by decide +kernel
theorem d_Mo_backward_71 : decode b_Mo_backward 71 = .ok (.iaload, 1) := by decide +kernel
theorem d_Mo_backward_72 : decode b_Mo_backward 72 = .ok (.iconst 1, 1) := by decide +kernel
theorem d_Mo_backward_73 : decode b_Mo_backward 73 = .ok (.iadd, 1) := by decide +kernel
theorem d_Mo_backward_74 : decode b_Mo_backward 74 = .ok (.iastore, 1) := by decide +kernel
theorem d_Mo_backward_75 : decode b_Mo_backward 75 = .ok (.aload_n 0, 1) := by decide +kernel
theorem d_Mo_backward_76 : decode b_Mo_backward 76 = .ok (.getfield 63, 3) := by decide +kernel
theorem d_Mo_backward_79 : decode b_Mo_backward 79 = .ok (.iload_n 1, 1) := by decide +kernel
theorem d_Mo_backward_80 : decode b_Mo_backward 80 = .ok (.iload 4, 2) := by decide +kernel
theorem d_Mo_backward_82 : decode b_Mo_backward 82 = .ok (.iastore, 1) := by decide +kernel
theorem d_Mo_backward_83 : decode b_Mo_backward 83 = .ok (.iinc 1 1, 3) := by decide +kernel
theorem d_Mo_backward_86 : decode b_Mo_backward 86 = .ok (.aload_n 0, 1) := by decide +kernel
theorem d_Mo_backward_87 : decode b_Mo_backward 87 = .ok (.getfield 48, 3) := by decide +kernel
theorem d_Mo_backward_90 : decode b_Mo_backward 90 = .ok (.iload_n 3, 1) := by decide +kernel
theorem d_Mo_backward_91 : decode b_Mo_backward 91 = .ok (.iaload, 1) := by decide +kernel
theorem d_Mo_backward_92 : decode b_Mo_backward 92 = .ok (.istore_n 3, 1) := by decide +kernel
theorem d_Mo_backward_93 : decode b_Mo_backward 93 = .ok (.goto (-65), 3) := by decide +kernel
theorem d_Mo_backward_96 : decode b_Mo_backward 96 = .ok (.iinc 2 1, 3) := by decide +kernel
theorem d_Mo_backward_99 : decode b_Mo_backward 99 = .ok (.goto (-88), 3) := by decide +kernel
theorem d_Mo_backward_102 : decode b_Mo_backward 102 = .ok (.return_, 1) := by decide +kernel
set_option maxRecDepth 100000 in
set_option maxHeartbeats 4000000 in
theorem S_Mo_backward_0 {G : Gc} {M : Mc} {Q : State → Prop} {K : Option Value → Hp → Prop} (hG : gok G) (hM : mok G M r_Mo_backward Q K) (v0 : Nat) (h : Hp) (F : kT h v0 = 12 ∧ kR h v0 20 = some (rf h v0 20) ∧ (kT h v0 = 12 ∧ sem G r_Mo_aims [.ref v0, .ref (rf h v0 20)] h (fun u2 h1 => ∃ x3 : Int32, u2 = some (.int x3) ∧ X G M Q 11 [(0, .ref v0), (1, .int x3), (2, .int 0)] [] h1))) : X G M Q 0 [(0, .ref v0)] [] h := by
  refine x_aload_n hM d_Mo_backward_0 rfl 0 rfl ?_
  refine x_aload_n hM d_Mo_backward_1 rfl 0 rfl ?_
  obtain ⟨c5, F⟩ := F
  obtain ⟨c6, F⟩ := F
  refine x_getr hG hM ck_Mo 20 (Nat.le_of_ble_eq_true rfl) rfl rfl w_917 rfl d_Mo_backward_2 c5 c6 ?_
  obtain ⟨c4, F⟩ := F
  refine x_callV hG hM (r' := r_Mo_aims) (ci := 11) [.ref (rf h v0 20)] rfl rfl (Nat.le_of_ble_eq_true rfl) yk_Mo_aims ⟨Nat.le_of_ble_eq_true rfl, Nat.le_of_ble_eq_true rfl⟩ w_1124 w_1126 ws_Mo_aims rfl rfl (Nat.le_of_ble_eq_true rfl) d_Mo_backward_5 c4 (sem_mono F ?_)
  intro u2 h1 F
  obtain ⟨x3, rfl, F⟩ := F
  refine x_istore_n (lv2 := [(1, .int x3), (0, .ref v0)]) hM d_Mo_backward_8 rfl (Nat.le_of_ble_eq_true rfl) rfl ?_
  refine x_iconst (v := 0) hM d_Mo_backward_9 (by decide) ?_
  refine x_istore_n (lv2 := [(2, .int 0), (1, .int x3), (0, .ref v0)]) hM d_Mo_backward_10 rfl (Nat.le_of_ble_eq_true rfl) rfl ?_
  refine x_sub [2, 1, 0] rfl ?_
  exact F
set_option maxRecDepth 100000 in
set_option maxHeartbeats 4000000 in
theorem S_Mo_backward_11 {G : Gc} {M : Mc} {Q : State → Prop} {K : Option Value → Hp → Prop} (hG : gok G) (hM : mok G M r_Mo_backward Q K) (v0 : Nat) (v1 : Int32) (v2 : Int32) (h : Hp) (F : (v1 ≤ v2 → K none h) ∧ (¬ v1 ≤ v2 → (kT h v0 = 12 ∧ kR h v0 16 = some (rf h v0 16) ∧ (kT h v0 = 12 ∧ kR h v0 23 = some (rf h v0 23) ∧ (kT h (rf h v0 23) = 50 ∧ vp_in v2 (kN h (rf h v0 23)) ∧ (kT h (rf h v0 16) = 50 ∧ vp_in (kI h (rf h v0 23) (Int32.toNatClampNeg v2)) (kN h (rf h v0 16)) ∧ X G M Q 28 [(0, .ref v0), (1, .int v1), (2, .int v2), (3, .int (kI h (rf h v0 16) (Int32.toNatClampNeg (kI h (rf h v0 23) (Int32.toNatClampNeg v2)))))] [] h)))))) : X G M Q 11 [(0, .ref v0), (1, .int v1), (2, .int v2)] [] h := by
  refine x_iload_n hM d_Mo_backward_11 rfl 2 rfl ?_
  refine x_iload_n hM d_Mo_backward_12 rfl 1 rfl ?_
  refine x_icmp_ge (tgt := 102) hM d_Mo_backward_13 (by decide) (fun q9 => ?_) (fun q9 => ?_)
  · replace F := F.1 q9
    exact x_return hM d_Mo_backward_102 rfl F
  · replace F := F.2 q9
    refine x_aload_n hM d_Mo_backward_16 rfl 0 rfl ?_
    obtain ⟨c7, F⟩ := F
    obtain ⟨c8, F⟩ := F
    refine x_getr hG hM ck_Mo 16 (Nat.le_of_ble_eq_true rfl) rfl rfl w_913 rfl d_Mo_backward_17 c7 c8 ?_
    refine x_aload_n hM d_Mo_backward_20 rfl 0 rfl ?_
    obtain ⟨c5, F⟩ := F
    obtain ⟨c6, F⟩ := F
    refine x_getr hG hM ck_Mo 23 (Nat.le_of_ble_eq_true rfl) rfl rfl w_920 rfl d_Mo_backward_21 c5 c6 ?_
    refine x_iload_n hM d_Mo_backward_24 rfl 2 rfl ?_
    obtain ⟨c3, F⟩ := F
    obtain ⟨c4, F⟩ := F
    refine x_iaload hG hM d_Mo_backward_25 c3 c4 ?_
    obtain ⟨c1, F⟩ := F
    obtain ⟨c2, F⟩ := F
    refine x_iaload hG hM d_Mo_backward_26 c1 c2 ?_
    refine x_istore_n (lv2 := [(3, .int (kI h (rf h v0 16) (Int32.toNatClampNeg (kI h (rf h v0 23) (Int32.toNatClampNeg v2))))), (0, .ref v0), (1, .int v1), (2, .int v2)]) hM d_Mo_backward_27 rfl (Nat.le_of_ble_eq_true rfl) rfl ?_
    refine x_sub [1, 2, 3, 0] rfl ?_
    exact F
set_option maxRecDepth 100000 in
set_option maxHeartbeats 4000000 in
theorem S_Mo_backward_28 {G : Gc} {M : Mc} {Q : State → Prop} {K : Option Value → Hp → Prop} (hG : gok G) (hM : mok G M r_Mo_backward Q K) (v0 : Nat) (v1 : Int32) (v2 : Int32) (v3 : Int32) (h : Hp) (F : (v3 = (-1) → X G M Q 11 [(0, .ref v0), (1, .int v1), (2, .int (v2 + 1))] [] h) ∧ (¬ v3 = (-1) → (kT h v0 = 12 ∧ kR h v0 17 = some (rf h v0 17) ∧ (kT h (rf h v0 17) = 50 ∧ vp_in v3 (kN h (rf h v0 17)) ∧ (kT h v0 = 12 ∧ kR h v0 20 = some (rf h v0 20) ∧ (kT h (rf h v0 20) = 50 ∧ vp_in ((kI h (rf h v0 17) (Int32.toNatClampNeg v3)) / 36) (kN h (rf h v0 20)) ∧ (((kI h (rf h v0 20) (Int32.toNatClampNeg ((kI h (rf h v0 17) (Int32.toNatClampNeg v3)) / 36))) = (-1) → (kT h v0 = 12 ∧ kR h v0 20 = some (rf h v0 20) ∧ (kT h v0 = 12 ∧ kR h v0 20 = some (rf h v0 20) ∧ (kT h v0 = 12 ∧ kR h v0 23 = some (rf h v0 23) ∧ (kT h (rf h v0 23) = 50 ∧ vp_in v2 (kN h (rf h v0 23)) ∧ (kT h (rf h v0 20) = 50 ∧ vp_in (kI h (rf h v0 23) (Int32.toNatClampNeg v2)) (kN h (rf h v0 20)) ∧ (kT h (rf h v0 20) = 50 ∧ vp_in ((kI h (rf h v0 17) (Int32.toNatClampNeg v3)) / 36) (kN h (rf h v0 20)) ∧ (∀ h5 : Hp, h5 = wI h (rf h v0 20) (Int32.toNatClampNeg ((kI h (rf h v0 17) (Int32.toNatClampNeg v3)) / 36)) ((kI h (rf h v0 20) (Int32.toNatClampNeg (kI h (rf h v0 23) (Int32.toNatClampNeg v2)))) + 1) → (kT h5 v0 = 12 ∧ kR h5 v0 23 = some (rf h5 v0 23) ∧ (kT h5 (rf h5 v0 23) = 50 ∧ vp_in v1 (kN h5 (rf h5 v0 23)) ∧ (∀ h6 : Hp, h6 = wI h5 (rf h5 v0 23) (Int32.toNatClampNeg v1) ((kI h (rf h v0 17) (Int32.toNatClampNeg v3)) / 36) → (kT h6 v0 = 12 ∧ kR h6 v0 18 = some (rf h6 v0 18) ∧ (kT h6 (rf h6 v0 18) = 50 ∧ vp_in v3 (kN h6 (rf h6 v0 18)) ∧ X G M Q 28 [(0, .ref v0), (1, .int (v1 + 1)), (2, .int v2), (3, .int (kI h6 (rf h6 v0 18) (Int32.toNatClampNeg v3)))] [] h6))))))))))))) ∧ (¬ (kI h (rf h v0 20) (Int32.toNatClampNeg ((kI h (rf h v0 17) (Int32.toNatClampNeg v3)) / 36))) = (-1) → (kT h v0 = 12 ∧ kR h v0 18 = some (rf h v0 18) ∧ (kT h (rf h v0 18) = 50 ∧ vp_in v3 (kN h (rf h v0 18)) ∧ X G M Q 28 [(0, .ref v0), (1, .int v1), (2, .int v2), (3, .int (kI h (rf h v0 18) (Int32.toNatClampNeg v3)))] [] h)))))))))) : X G M Q 28 [(0, .ref v0), (1, .int v1), (2, .int v2), (3, .int v3)] [] h := by
  refine x_iload_n hM d_Mo_backward_28 rfl 3 rfl ?_
  refine x_iconst (v := (-1)) hM d_Mo_backward_29 (by decide) ?_
  refine x_icmp_eq (tgt := 96) hM d_Mo_backward_30 (by decide) (fun q36 => ?_) (fun q36 => ?_)
  · replace F := F.1 q36
    refine x_iinc (v := (v2 + 1)) (lv2 := [(2, .int (v2 + 1)), (0, .ref v0), (1, .int v1), (3, .int v3)]) hM d_Mo_backward_96 (j := 2) rfl rfl (Nat.le_of_ble_eq_true rfl) rfl ?_
    refine x_goto (tgt := 11) hM d_Mo_backward_99 (by decide) ?_
    refine x_sub [1, 2, 0] rfl ?_
    exact F
  · replace F := F.2 q36
    refine x_aload_n hM d_Mo_backward_33 rfl 0 rfl ?_
    obtain ⟨c34, F⟩ := F
    obtain ⟨c35, F⟩ := F
    refine x_getr hG hM ck_Mo 17 (Nat.le_of_ble_eq_true rfl) rfl rfl w_914 rfl d_Mo_backward_34 c34 c35 ?_
    refine x_iload_n hM d_Mo_backward_37 rfl 3 rfl ?_
    obtain ⟨c32, F⟩ := F
    obtain ⟨c33, F⟩ := F
    refine x_iaload hG hM d_Mo_backward_38 c32 c33 ?_
    refine x_bipush (v := 36) hM d_Mo_backward_39 (by decide) ?_
    refine x_idiv hM d_Mo_backward_41 (by decide) ?_
    refine x_istore (lv2 := [(4, .int ((kI h (rf h v0 17) (Int32.toNatClampNeg v3)) / 36)), (0, .ref v0), (1, .int v1), (2, .int v2), (3, .int v3)]) hM d_Mo_backward_42 (Nat.le_of_ble_eq_true rfl) rfl ?_
    refine x_aload_n hM d_Mo_backward_44 rfl 1 rfl ?_
    obtain ⟨c30, F⟩ := F
    obtain ⟨c31, F⟩ := F
    refine x_getr hG hM ck_Mo 20 (Nat.le_of_ble_eq_true rfl) rfl rfl w_917 rfl d_Mo_backward_45 c30 c31 ?_
    refine x_iload hM d_Mo_backward_48 0 rfl ?_
    obtain ⟨c28, F⟩ := F
    obtain ⟨c29, F⟩ := F
    refine x_iaload hG hM d_Mo_backward_50 c28 c29 ?_
    refine x_iconst (v := (-1)) hM d_Mo_backward_51 (by decide) ?_
    refine x_icmp_ne (tgt := 86) hM d_Mo_backward_52 (by decide) (fun q27 => ?_) (fun q27 => ?_)
    · replace F := F.2 q27
      refine x_aload_n hM d_Mo_backward_86 rfl 1 rfl ?_
      obtain ⟨c3, F⟩ := F
      obtain ⟨c4, F⟩ := F
      refine x_getr hG hM ck_Mo 18 (Nat.le_of_ble_eq_true rfl) rfl rfl w_915 rfl d_Mo_backward_87 c3 c4 ?_
      refine x_iload_n hM d_Mo_backward_90 rfl 4 rfl ?_
      obtain ⟨c1, F⟩ := F
      obtain ⟨c2, F⟩ := F
      refine x_iaload hG hM d_Mo_backward_91 c1 c2 ?_
      refine x_istore_n (lv2 := [(3, .int (kI h (rf h v0 18) (Int32.toNatClampNeg v3))), (4, .int ((kI h (rf h v0 17) (Int32.toNatClampNeg v3)) / 36)), (0, .ref v0), (1, .int v1), (2, .int v2)]) hM d_Mo_backward_92 rfl (Nat.le_of_ble_eq_true rfl) rfl ?_
      refine x_goto (tgt := 28) hM d_Mo_backward_93 (by decide) ?_
      refine x_sub [2, 3, 4, 0] rfl ?_
      exact F
    · replace F := F.1 q27
      refine x_aload_n hM d_Mo_backward_55 rfl 1 rfl ?_
      obtain ⟨c25, F⟩ := F
      obtain ⟨c26, F⟩ := F
      refine x_getr hG hM ck_Mo 20 (Nat.le_of_ble_eq_true rfl) rfl rfl w_917 rfl d_Mo_backward_56 c25 c26 ?_
      refine x_iload hM d_Mo_backward_59 0 rfl ?_
      refine x_aload_n hM d_Mo_backward_61 rfl 1 rfl ?_
      obtain ⟨c23, F⟩ := F
      obtain ⟨c24, F⟩ := F
      refine x_getr hG hM ck_Mo 20 (Nat.le_of_ble_eq_true rfl) rfl rfl w_917 rfl d_Mo_backward_62 c23 c24 ?_
      refine x_aload_n hM d_Mo_backward_65 rfl 1 rfl ?_
      obtain ⟨c21, F⟩ := F
      obtain ⟨c22, F⟩ := F
      refine x_getr hG hM ck_Mo 23 (Nat.le_of_ble_eq_true rfl) rfl rfl w_920 rfl d_Mo_backward_66 c21 c22 ?_
      refine x_iload_n hM d_Mo_backward_69 rfl 3 rfl ?_
      obtain ⟨c19, F⟩ := F
      obtain ⟨c20, F⟩ := F
      refine x_iaload hG hM d_Mo_backward_70 c19 c20 ?_
      obtain ⟨c17, F⟩ := F
      obtain ⟨c18, F⟩ := F
      refine x_iaload hG hM d_Mo_backward_71 c17 c18 ?_
      refine x_iconst (v := 1) hM d_Mo_backward_72 (by decide) ?_
      refine x_iadd hM d_Mo_backward_73 ?_
      obtain ⟨c15, F⟩ := F
      obtain ⟨c16, F⟩ := F
      obtain ⟨h5, eh5⟩ : ∃ z : Hp, z = wI h (rf h v0 20) (Int32.toNatClampNeg ((kI h (rf h v0 17) (Int32.toNatClampNeg v3)) / 36)) ((kI h (rf h v0 20) (Int32.toNatClampNeg (kI h (rf h v0 23) (Int32.toNatClampNeg v2)))) + 1) := ⟨_, rfl⟩
      replace F := F h5 eh5
      refine x_iastore hG hM d_Mo_backward_74 c15 c16 ?_
      rw [← eh5]
      clear eh5
      refine x_aload_n hM d_Mo_backward_75 rfl 1 rfl ?_
      obtain ⟨c13, F⟩ := F
      obtain ⟨c14, F⟩ := F
      refine x_getr hG hM ck_Mo 23 (Nat.le_of_ble_eq_true rfl) rfl rfl w_920 rfl d_Mo_backward_76 c13 c14 ?_
      refine x_iload_n hM d_Mo_backward_79 rfl 2 rfl ?_
      refine x_iload hM d_Mo_backward_80 0 rfl ?_
      obtain ⟨c11, F⟩ := F
      obtain ⟨c12, F⟩ := F
      obtain ⟨h6, eh6⟩ : ∃ z : Hp, z = wI h5 (rf h5 v0 23) (Int32.toNatClampNeg v1) ((kI h (rf h v0 17) (Int32.toNatClampNeg v3)) / 36) := ⟨_, rfl⟩
      replace F := F h6 eh6
      refine x_iastore hG hM d_Mo_backward_82 c11 c12 ?_
      rw [← eh6]
      clear eh6
      refine x_iinc (v := (v1 + 1)) (lv2 := [(1, .int (v1 + 1)), (4, .int ((kI h (rf h v0 17) (Int32.toNatClampNeg v3)) / 36)), (0, .ref v0), (2, .int v2), (3, .int v3)]) hM d_Mo_backward_83 (j := 2) rfl rfl (Nat.le_of_ble_eq_true rfl) rfl ?_
      refine x_aload_n hM d_Mo_backward_86 rfl 2 rfl ?_
      obtain ⟨c9, F⟩ := F
      obtain ⟨c10, F⟩ := F
      refine x_getr hG hM ck_Mo 18 (Nat.le_of_ble_eq_true rfl) rfl rfl w_915 rfl d_Mo_backward_87 c9 c10 ?_
      refine x_iload_n hM d_Mo_backward_90 rfl 4 rfl ?_
      obtain ⟨c7, F⟩ := F
      obtain ⟨c8, F⟩ := F
      refine x_iaload hG hM d_Mo_backward_91 c7 c8 ?_
      refine x_istore_n (lv2 := [(3, .int (kI h6 (rf h6 v0 18) (Int32.toNatClampNeg v3))), (1, .int (v1 + 1)), (4, .int ((kI h (rf h v0 17) (Int32.toNatClampNeg v3)) / 36)), (0, .ref v0), (2, .int v2)]) hM d_Mo_backward_92 rfl (Nat.le_of_ble_eq_true rfl) rfl ?_
      refine x_goto (tgt := 28) hM d_Mo_backward_93 (by decide) ?_
      refine x_sub [3, 1, 4, 0] rfl ?_
      exact F
theorem d_Mo_aims_0 : decode b_Mo_aims 0 = .ok (.iconst 0, 1) := by decide +kernel
theorem d_Mo_aims_1 : decode b_Mo_aims 1 = .ok (.istore_n 2, 1) := by decide +kernel
theorem d_Mo_aims_2 : decode b_Mo_aims 2 = .ok (.iconst 0, 1) := by decide +kernel
theorem d_Mo_aims_3 : decode b_Mo_aims 3 = .ok (.istore_n 3, 1) := by decide +kernel
theorem d_Mo_aims_4 : decode b_Mo_aims 4 = .ok (.iload_n 3, 1) := by decide +kernel
theorem d_Mo_aims_5 : decode b_Mo_aims 5 = .ok (.aload_n 0, 1) := by decide +kernel
theorem d_Mo_aims_6 : decode b_Mo_aims 6 = .ok (.getfield 157, 3) := by decide +kernel
theorem d_Mo_aims_9 : decode b_Mo_aims 9 = .ok (.if_icmp .ge 45, 3) := by decide +kernel
theorem d_Mo_aims_12 : decode b_Mo_aims 12 = .ok (.aload_n 1, 1) := by decide +kernel
theorem d_Mo_aims_13 : decode b_Mo_aims 13 = .ok (.iload_n 3, 1) := by decide +kernel
theorem d_Mo_aims_14 : decode b_Mo_aims 14 = .ok (.aload_n 0, 1) := by decide +kernel
theorem d_Mo_aims_15 : decode b_Mo_aims 15 = .ok (.getfield 38, 3) := by decide +kernel
theorem d_Mo_aims_18 : decode b_Mo_aims 18 = .ok (.iload_n 3, 1) := by decide +kernel
theorem d_Mo_aims_19 : decode b_Mo_aims 19 = .ok (.baload, 1) := by decide +kernel
theorem d_Mo_aims_20 : decode b_Mo_aims 20 = .ok (.ifCond .eq 7, 3) := by decide +kernel
theorem d_Mo_aims_23 : decode b_Mo_aims 23 = .ok (.iconst 0, 1) := by decide +kernel
theorem d_Mo_aims_24 : decode b_Mo_aims 24 = .ok (.goto 4, 3) := by decide +kernel
theorem d_Mo_aims_27 : decode b_Mo_aims 27 = .ok (.iconst (-1), 1) := by decide +kernel
theorem d_Mo_aims_28 : decode b_Mo_aims 28 = .ok (.iastore, 1) := by decide +kernel
theorem d_Mo_aims_29 : decode b_Mo_aims 29 = .ok (.aload_n 0, 1) := by decide +kernel
theorem d_Mo_aims_30 : decode b_Mo_aims 30 = .ok (.getfield 38, 3) := by decide +kernel
theorem d_Mo_aims_33 : decode b_Mo_aims 33 = .ok (.iload_n 3, 1) := by decide +kernel
theorem d_Mo_aims_34 : decode b_Mo_aims 34 = .ok (.baload, 1) := by decide +kernel
theorem d_Mo_aims_35 : decode b_Mo_aims 35 = .ok (.ifCond .eq 13, 3) := by decide +kernel
theorem d_Mo_aims_38 : decode b_Mo_aims 38 = .ok (.aload_n 0, 1) := by decide +kernel
theorem d_Mo_aims_39 : decode b_Mo_aims 39 = .ok (.getfield 63, 3) := by decide +kernel
theorem d_Mo_aims_42 : decode b_Mo_aims 42 = .ok (.iload_n 2, 1) := by decide +kernel
theorem d_Mo_aims_43 : decode b_Mo_aims 43 = .ok (.iload_n 3, 1) := by decide +kernel
theorem d_Mo_aims_44 : decode b_Mo_aims 44 = .ok (.iastore, 1) := by decide +kernel
theorem d_Mo_aims_45 : decode b_Mo_aims 45 = .ok (.iinc 2 1, 3) := by decide +kernel
theorem d_Mo_aims_48 : decode b_Mo_aims 48 = .ok (.iinc 3 1, 3) := by decide +kernel
theorem d_Mo_aims_51 : decode b_Mo_aims 51 = .ok (.goto (-47), 3) := by decide +kernel
theorem d_Mo_aims_54 : decode b_Mo_aims 54 = .ok (.iload_n 2, 1) := by decide +kernel
theorem d_Mo_aims_55 : decode b_Mo_aims 55 = .ok (.ireturn, 1) := by decide +kernel
set_option maxRecDepth 100000 in
set_option maxHeartbeats 4000000 in
theorem S_Mo_aims_0 {G : Gc} {M : Mc} {Q : State → Prop} {K : Option Value → Hp → Prop} (hG : gok G) (hM : mok G M r_Mo_aims Q K) (v0 : Nat) (v1 : Nat) (h : Hp) (F : X G M Q 4 [(0, .ref v0), (1, .ref v1), (2, .int 0), (3, .int 0)] [] h) : X G M Q 0 [(0, .ref v0), (1, .ref v1)] [] h := by
  refine x_iconst (v := 0) hM d_Mo_aims_0 (by decide) ?_
  refine x_istore_n (lv2 := [(2, .int 0), (0, .ref v0), (1, .ref v1)]) hM d_Mo_aims_1 rfl (Nat.le_of_ble_eq_true rfl) rfl ?_
  refine x_iconst (v := 0) hM d_Mo_aims_2 (by decide) ?_
  refine x_istore_n (lv2 := [(3, .int 0), (2, .int 0), (0, .ref v0), (1, .ref v1)]) hM d_Mo_aims_3 rfl (Nat.le_of_ble_eq_true rfl) rfl ?_
  refine x_sub [2, 3, 1, 0] rfl ?_
  exact F
set_option maxRecDepth 100000 in
set_option maxHeartbeats 4000000 in
theorem S_Mo_aims_4 {G : Gc} {M : Mc} {Q : State → Prop} {K : Option Value → Hp → Prop} (hG : gok G) (hM : mok G M r_Mo_aims Q K) (v0 : Nat) (v1 : Nat) (v2 : Int32) (v3 : Int32) (h : Hp) (F : kT h v0 = 12 ∧ (((kI h v0 13) ≤ v3 → K (some (.int v2)) h) ∧ (¬ (kI h v0 13) ≤ v3 → (kT h v0 = 12 ∧ kR h v0 15 = some (rf h v0 15) ∧ (kT h (rf h v0 15) = 51 ∧ vp_in v3 (kN h (rf h v0 15)) ∧ (∀ z1 : Int32, z1 = (if (kI h (rf h v0 15) (Int32.toNatClampNeg v3)) = 0 then (-1) else 0) → (kT h v1 = 50 ∧ vp_in v3 (kN h v1) ∧ (∀ h2 : Hp, h2 = wI h v1 (Int32.toNatClampNeg v3) z1 → (kT h2 v0 = 12 ∧ kR h2 v0 15 = some (rf h2 v0 15) ∧ (kT h2 (rf h2 v0 15) = 51 ∧ vp_in v3 (kN h2 (rf h2 v0 15)) ∧ (((kI h2 (rf h2 v0 15) (Int32.toNatClampNeg v3)) = 0 → X G M Q 4 [(0, .ref v0), (1, .ref v1), (2, .int v2), (3, .int (v3 + 1))] [] h2) ∧ (¬ (kI h2 (rf h2 v0 15) (Int32.toNatClampNeg v3)) = 0 → (kT h2 v0 = 12 ∧ kR h2 v0 23 = some (rf h2 v0 23) ∧ (kT h2 (rf h2 v0 23) = 50 ∧ vp_in v2 (kN h2 (rf h2 v0 23)) ∧ (∀ h3 : Hp, h3 = wI h2 (rf h2 v0 23) (Int32.toNatClampNeg v2) v3 → X G M Q 4 [(0, .ref v0), (1, .ref v1), (2, .int (v2 + 1)), (3, .int (v3 + 1))] [] h3))))))))))))))) : X G M Q 4 [(0, .ref v0), (1, .ref v1), (2, .int v2), (3, .int v3)] [] h := by
  refine x_iload_n hM d_Mo_aims_4 rfl 3 rfl ?_
  refine x_aload_n hM d_Mo_aims_5 rfl 0 rfl ?_
  obtain ⟨c21, F⟩ := F
  refine x_geti hG hM ck_Mo 13 (Nat.le_of_ble_eq_true rfl) rfl rfl w_910 rfl d_Mo_aims_6 c21 ?_
  refine x_icmp_ge (tgt := 54) hM d_Mo_aims_9 (by decide) (fun q20 => ?_) (fun q20 => ?_)
  · replace F := F.1 q20
    refine x_iload_n hM d_Mo_aims_54 rfl 2 rfl ?_
    exact x_ireturn hM d_Mo_aims_55 rfl F
  · replace F := F.2 q20
    refine x_aload_n hM d_Mo_aims_12 rfl 1 rfl ?_
    refine x_iload_n hM d_Mo_aims_13 rfl 3 rfl ?_
    refine x_aload_n hM d_Mo_aims_14 rfl 0 rfl ?_
    obtain ⟨c18, F⟩ := F
    obtain ⟨c19, F⟩ := F
    refine x_getr hG hM ck_Mo 15 (Nat.le_of_ble_eq_true rfl) rfl rfl w_912 rfl d_Mo_aims_15 c18 c19 ?_
    refine x_iload_n hM d_Mo_aims_18 rfl 3 rfl ?_
    obtain ⟨c16, F⟩ := F
    obtain ⟨c17, F⟩ := F
    refine x_zaload hG hM d_Mo_aims_19 c16 c17 ?_
    have JJ : ∀ (z1 : Int32) (ez1 : z1 = (if (kI h (rf h v0 15) (Int32.toNatClampNeg v3)) = 0 then (-1) else 0)), X G M Q 28 [(0, .ref v0), (1, .ref v1), (2, .int v2), (3, .int v3)] [.int z1, .int v3, .ref v1] h := by
      intro z1 ez1
      replace F := F _ ez1
      obtain ⟨c13, F⟩ := F
      obtain ⟨c14, F⟩ := F
      obtain ⟨h2, eh2⟩ : ∃ z : Hp, z = wI h v1 (Int32.toNatClampNeg v3) z1 := ⟨_, rfl⟩
      replace F := F h2 eh2
      refine x_iastore hG hM d_Mo_aims_28 c13 c14 ?_
      rw [← eh2]
      clear eh2
      refine x_aload_n hM d_Mo_aims_29 rfl 0 rfl ?_
      obtain ⟨c11, F⟩ := F
      obtain ⟨c12, F⟩ := F
      refine x_getr hG hM ck_Mo 15 (Nat.le_of_ble_eq_true rfl) rfl rfl w_912 rfl d_Mo_aims_30 c11 c12 ?_
      refine x_iload_n hM d_Mo_aims_33 rfl 3 rfl ?_
      obtain ⟨c9, F⟩ := F
      obtain ⟨c10, F⟩ := F
      refine x_zaload hG hM d_Mo_aims_34 c9 c10 ?_
      refine x_if_eq (tgt := 48) hM d_Mo_aims_35 (by decide) (fun q8 => ?_) (fun q8 => ?_)
      · replace F := F.1 q8
        refine x_iinc (v := (v3 + 1)) (lv2 := [(3, .int (v3 + 1)), (0, .ref v0), (1, .ref v1), (2, .int v2)]) hM d_Mo_aims_48 (j := 3) rfl rfl (Nat.le_of_ble_eq_true rfl) rfl ?_
        refine x_goto (tgt := 4) hM d_Mo_aims_51 (by decide) ?_
        refine x_sub [1, 2, 3, 0] rfl ?_
        exact F
      · replace F := F.2 q8
        refine x_aload_n hM d_Mo_aims_38 rfl 0 rfl ?_
        obtain ⟨c6, F⟩ := F
        obtain ⟨c7, F⟩ := F
        refine x_getr hG hM ck_Mo 23 (Nat.le_of_ble_eq_true rfl) rfl rfl w_920 rfl d_Mo_aims_39 c6 c7 ?_
        refine x_iload_n hM d_Mo_aims_42 rfl 2 rfl ?_
        refine x_iload_n hM d_Mo_aims_43 rfl 3 rfl ?_
        obtain ⟨c4, F⟩ := F
        obtain ⟨c5, F⟩ := F
        obtain ⟨h3, eh3⟩ : ∃ z : Hp, z = wI h2 (rf h2 v0 23) (Int32.toNatClampNeg v2) v3 := ⟨_, rfl⟩
        replace F := F h3 eh3
        refine x_iastore hG hM d_Mo_aims_44 c4 c5 ?_
        rw [← eh3]
        clear eh3
        refine x_iinc (v := (v2 + 1)) (lv2 := [(2, .int (v2 + 1)), (0, .ref v0), (1, .ref v1), (3, .int v3)]) hM d_Mo_aims_45 (j := 2) rfl rfl (Nat.le_of_ble_eq_true rfl) rfl ?_
        refine x_iinc (v := (v3 + 1)) (lv2 := [(3, .int (v3 + 1)), (2, .int (v2 + 1)), (0, .ref v0), (1, .ref v1)]) hM d_Mo_aims_48 (j := 3) rfl rfl (Nat.le_of_ble_eq_true rfl) rfl ?_
        refine x_goto (tgt := 4) hM d_Mo_aims_51 (by decide) ?_
        refine x_sub [2, 3, 1, 0] rfl ?_
        exact F
    refine x_if_eq (tgt := 27) hM d_Mo_aims_20 (by decide) (fun q15 => ?_) (fun q15 => ?_)
    · refine x_iconst (v := (-1)) hM d_Mo_aims_27 (by decide) ?_
      exact JJ _ (Eq.symm (if_pos q15))
    · refine x_iconst (v := 0) hM d_Mo_aims_23 (by decide) ?_
      refine x_goto (tgt := 28) hM d_Mo_aims_24 (by decide) ?_
      exact JJ _ (Eq.symm (if_neg q15))
theorem d_Mo_surely_0 : decode b_Mo_surely 0 = .ok (.iconst 0, 1) := by decide +kernel
theorem d_Mo_surely_1 : decode b_Mo_surely 1 = .ok (.istore_n 1, 1) := by decide +kernel
theorem d_Mo_surely_2 : decode b_Mo_surely 2 = .ok (.iload_n 1, 1) := by decide +kernel
theorem d_Mo_surely_3 : decode b_Mo_surely 3 = .ok (.aload_n 0, 1) := by decide +kernel
theorem d_Mo_surely_4 : decode b_Mo_surely 4 = .ok (.getfield 157, 3) := by decide +kernel
theorem d_Mo_surely_7 : decode b_Mo_surely 7 = .ok (.if_icmp .ge 42, 3) := by decide +kernel
theorem d_Mo_surely_10 : decode b_Mo_surely 10 = .ok (.iconst 0, 1) := by decide +kernel
theorem d_Mo_surely_11 : decode b_Mo_surely 11 = .ok (.istore_n 2, 1) := by decide +kernel
theorem d_Mo_surely_12 : decode b_Mo_surely 12 = .ok (.iload_n 2, 1) := by decide +kernel
theorem d_Mo_surely_13 : decode b_Mo_surely 13 = .ok (.aload_n 0, 1) := by decide +kernel
theorem d_Mo_surely_14 : decode b_Mo_surely 14 = .ok (.getfield 112, 3) := by decide +kernel
theorem d_Mo_surely_17 : decode b_Mo_surely 17 = .ok (.if_icmp .ge 26, 3) := by decide +kernel
theorem d_Mo_surely_20 : decode b_Mo_surely 20 = .ok (.aload_n 0, 1) := by decide +kernel
theorem d_Mo_surely_21 : decode b_Mo_surely 21 = .ok (.getfield 67, 3) := by decide +kernel
theorem d_Mo_surely_24 : decode b_Mo_surely 24 = .ok (.bipush 12, 2) := by decide +kernel
theorem d_Mo_surely_26 : decode b_Mo_surely 26 = .ok (.iload_n 1, 1) := by decide +kernel
theorem d_Mo_surely_27 : decode b_Mo_surely 27 = .ok (.imul, 1) := by decide +kernel
theorem d_Mo_surely_28 : decode b_Mo_surely 28 = .ok (.iload_n 2, 1) := by decide +kernel
theorem d_Mo_surely_29 : decode b_Mo_surely 29 = .ok (.iadd, 1) := by decide +kernel
theorem d_Mo_surely_30 : decode b_Mo_surely 30 = .ok (.aload_n 0, 1) := by decide +kernel
theorem d_Mo_surely_31 : decode b_Mo_surely 31 = .ok (.getfield 13, 3) := by decide +kernel
theorem d_Mo_surely_34 : decode b_Mo_surely 34 = .ok (.iload_n 2, 1) := by decide +kernel
theorem d_Mo_surely_35 : decode b_Mo_surely 35 = .ok (.iaload, 1) := by decide +kernel
theorem d_Mo_surely_36 : decode b_Mo_surely 36 = .ok (.iastore, 1) := by decide +kernel
theorem d_Mo_surely_37 : decode b_Mo_surely 37 = .ok (.iinc 2 1, 3) := by decide +kernel
theorem d_Mo_surely_40 : decode b_Mo_surely 40 = .ok (.goto (-28), 3) := by decide +kernel
theorem d_Mo_surely_43 : decode b_Mo_surely 43 = .ok (.iinc 1 1, 3) := by decide +kernel
theorem d_Mo_surely_46 : decode b_Mo_surely 46 = .ok (.goto (-44), 3) := by decide +kernel
theorem d_Mo_surely_49 : decode b_Mo_surely 49 = .ok (.aload_n 0, 1) := by decide +kernel
theorem d_Mo_surely_50 : decode b_Mo_surely 50 = .ok (.aload_n 0, 1) := by decide +kernel
theorem d_Mo_surely_51 : decode b_Mo_surely 51 = .ok (.getfield 57, 3) := by decide +kernel
theorem d_Mo_surely_54 : decode b_Mo_surely 54 = .ok (.invokevirtual 172, 3) := by decide +kernel
theorem d_Mo_surely_57 : decode b_Mo_surely 57 = .ok (.istore_n 1, 1) := by decide +kernel
theorem d_Mo_surely_58 : decode b_Mo_surely 58 = .ok (.iconst 0, 1) := by decide +kernel
theorem d_Mo_surely_59 : decode b_Mo_surely 59 = .ok (.istore_n 2, 1) := by decide +kernel
theorem d_Mo_surely_60 : decode b_Mo_surely 60 = .ok (.iload_n 2, 1) := by decide +kernel
theorem d_Mo_surely_61 : decode b_Mo_surely 61 = .ok (.iload_n 1, 1) := by decide +kernel
theorem d_Mo_surely_62 : decode b_Mo_surely 62 = .ok (.if_icmp .ge 135, 3) := by decide +kernel
theorem d_Mo_surely_65 : decode b_Mo_surely 65 = .ok (.aload_n 0, 1) := by decide +kernel
theorem d_Mo_surely_66 : decode b_Mo_surely 66 = .ok (.getfield 42, 3) := by decide +kernel
theorem d_Mo_surely_69 : decode b_Mo_surely 69 = .ok (.aload_n 0, 1) := by decide +kernel
theorem d_Mo_surely_70 : decode b_Mo_surely 70 = .ok (.getfield 63, 3) := by decide +kernel
theorem d_Mo_surely_73 : decode b_Mo_surely 73 = .ok (.iload_n 2, 1) := by decide +kernel
theorem d_Mo_surely_74 : decode b_Mo_surely 74 = .ok (.iaload, 1) := by decide +kernel
theorem d_Mo_surely_75 : decode b_Mo_surely 75 = .ok (.iaload, 1) := by decide +kernel
theorem d_Mo_surely_76 : decode b_Mo_surely 76 = .ok (.istore_n 3, 1) := by decide +kernel
theorem d_Mo_surely_77 : decode b_Mo_surely 77 = .ok (.iload_n 3, 1) := by decide +kernel
theorem d_Mo_surely_78 : decode b_Mo_surely 78 = .ok (.iconst (-1), 1) := by decide +kernel
theorem d_Mo_surely_79 : decode b_Mo_surely 79 = .ok (.if_icmp .eq 112, 3) := by decide +kernel
theorem d_Mo_surely_82 : decode b_Mo_surely 82 = .ok (.aload_n 0, 1) := by decide +kernel
theorem d_Mo_surely_83 : decode b_Mo_surely 83 = .ok (.getfield 45, 3) := by decide +kernel
theorem d_Mo_surely_86 : decode b_Mo_surely 86 = .ok (.iload_n 3, 1) := by decide +kernel
theorem d_Mo_surely_87 : decode b_Mo_surely 87 = .ok (.iaload, 1) := by decide +kernel
theorem d_Mo_surely_88 : decode b_Mo_surely 88 = .ok (.bipush 36, 2) := by decide +kernel
theorem d_Mo_surely_90 : decode b_Mo_surely 90 = .ok (.idiv, 1) := by decide +kernel
theorem d_Mo_surely_91 : decode b_Mo_surely 91 = .ok (.istore 4, 2) := by decide +kernel
theorem d_Mo_surely_93 : decode b_Mo_surely 93 = .ok (.aload_n 0, 1) := by decide +kernel
theorem d_Mo_surely_94 : decode b_Mo_surely 94 = .ok (.getfield 45, 3) := by decide +kernel
theorem d_Mo_surely_97 : decode b_Mo_surely 97 = .ok (.iload_n 3, 1) := by decide +kernel
theorem d_Mo_surely_98 : decode b_Mo_surely 98 = .ok (.iaload, 1) := by decide +kernel
theorem d_Mo_surely_99 : decode b_Mo_surely 99 = .ok (.bipush 36, 2) := by decide +kernel
theorem d_Mo_surely_101 : decode b_Mo_surely 101 = .ok (.irem, 1) := by decide +kernel
theorem d_Mo_surely_102 : decode b_Mo_surely 102 = .ok (.iconst 3, 1) := by decide +kernel
theorem d_Mo_surely_103 : decode b_Mo_surely 103 = .ok (.idiv, 1) := by decide +kernel
theorem d_Mo_surely_104 : decode b_Mo_surely 104 = .ok (.istore 5, 2) := by decide +kernel
theorem d_Mo_surely_106 : decode b_Mo_surely 106 = .ok (.aload_n 0, 1) := by decide +kernel
theorem d_Mo_surely_107 : decode b_Mo_surely 107 = .ok (.getfield 67, 3) := by decide +kernel
theorem d_Mo_surely_110 : decode b_Mo_surely 110 = .ok (.bipush 12, 2) := by decide +kernel
theorem d_Mo_surely_112 : decode b_Mo_surely 112 = .ok (.iload 4, 2) := by decide +kernel
theorem d_Mo_surely_114 : decode b_Mo_surely 114 = .ok (.imul, 1) := by decide +kernel
theorem d_Mo_surely_115 : decode b_Mo_surely 115 = .ok (.iload 5, 2) := by decide +kernel
theorem d_Mo_surely_117 : decode b_Mo_surely 117 = .ok (.iadd, 1) := by decide +kernel
theorem d_Mo_surely_118 : decode b_Mo_surely 118 = .ok (.dup2, 1) := by decide +kernel
theorem d_Mo_surely_119 : decode b_Mo_surely 119 = .ok (.iaload, 1) := by decide +kernel
theorem d_Mo_surely_120 : decode b_Mo_surely 120 = .ok (.iconst 1, 1) := by decide +kernel
theorem d_Mo_surely_121 : decode b_Mo_surely 121 = .ok (.isub, 1) := by decide +kernel
theorem d_Mo_surely_122 : decode b_Mo_surely 122 = .ok (.iastore, 1) := by decide +kernel
theorem d_Mo_surely_123 : decode b_Mo_surely 123 = .ok (.aload_n 0, 1) := by decide +kernel
theorem d_Mo_surely_124 : decode b_Mo_surely 124 = .ok (.getfield 67, 3) := by decide +kernel
theorem d_Mo_surely_127 : decode b_Mo_surely 127 = .ok (.bipush 12, 2) := by decide +kernel
theorem d_Mo_surely_129 : decode b_Mo_surely 129 = .ok (.iload 4, 2) := by decide +kernel
theorem d_Mo_surely_131 : decode b_Mo_surely 131 = .ok (.imul, 1) := by decide +kernel
theorem d_Mo_surely_132 : decode b_Mo_surely 132 = .ok (.iload 5, 2) := by decide +kernel
theorem d_Mo_surely_134 : decode b_Mo_surely 134 = .ok (.iadd, 1) := by decide +kernel
theorem d_Mo_surely_135 : decode b_Mo_surely 135 = .ok (.iaload, 1) := by decide +kernel
theorem d_Mo_surely_136 : decode b_Mo_surely 136 = .ok (.ifCond .ne 45, 3) := by decide +kernel
theorem d_Mo_surely_139 : decode b_Mo_surely 139 = .ok (.aload_n 0, 1) := by decide +kernel
theorem d_Mo_surely_140 : decode b_Mo_surely 140 = .ok (.getfield 57, 3) := by decide +kernel
theorem d_Mo_surely_143 : decode b_Mo_surely 143 = .ok (.iload 4, 2) := by decide +kernel
theorem d_Mo_surely_145 : decode b_Mo_surely 145 = .ok (.iaload, 1) := by decide +kernel
theorem d_Mo_surely_146 : decode b_Mo_surely 146 = .ok (.iconst (-1), 1) := by decide +kernel
theorem d_Mo_surely_147 : decode b_Mo_surely 147 = .ok (.if_icmp .ne 34, 3) := by decide +kernel
theorem d_Mo_surely_150 : decode b_Mo_surely 150 = .ok (.aload_n 0, 1) := by decide +kernel
theorem d_Mo_surely_151 : decode b_Mo_surely 151 = .ok (.getfield 57, 3) := by decide +kernel
theorem d_Mo_surely_154 : decode b_Mo_surely 154 = .ok (.iload 4, 2) := by decide +kernel
theorem d_Mo_surely_156 : decode b_Mo_surely 156 = .ok (.aload_n 0, 1) := by decide +kernel
theorem d_Mo_surely_157 : decode b_Mo_surely 157 = .ok (.getfield 57, 3) := by decide +kernel
theorem d_Mo_surely_160 : decode b_Mo_surely 160 = .ok (.aload_n 0, 1) := by decide +kernel
theorem d_Mo_surely_161 : decode b_Mo_surely 161 = .ok (.getfield 63, 3) := by decide +kernel
theorem d_Mo_surely_164 : decode b_Mo_surely 164 = .ok (.iload_n 2, 1) := by decide +kernel
theorem d_Mo_surely_165 : decode b_Mo_surely 165 = .ok (.iaload, 1) := by decide +kernel
theorem d_Mo_surely_166 : decode b_Mo_surely 166 = .ok (.iaload, 1) := by decide +kernel
theorem d_Mo_surely_167 : decode b_Mo_surely 167 = .ok (.iconst 1, 1) := by decide +kernel
theorem d_Mo_surely_168 : decode b_Mo_surely 168 = .ok (.iadd, 1) := by decide +kernel
theorem d_Mo_surely_169 : decode b_Mo_surely 169 = .ok (.iastore, 1) := by decide +kernel
theorem d_Mo_surely_170 : decode b_Mo_surely 170 = .ok (.aload_n 0, 1) := by decide +kernel
theorem d_Mo_surely_171 : decode b_Mo_surely 171 = .ok (.getfield 63, 3) := by decide +kernel
theorem d_Mo_surely_174 : decode b_Mo_surely 174 = .ok (.iload_n 1, 1) := by decide +kernel
theorem d_Mo_surely_175 : decode b_Mo_surely 175 = .ok (.iload 4, 2) := by decide +kernel
theorem d_Mo_surely_177 : decode b_Mo_surely 177 = .ok (.iastore, 1) := by decide +kernel
theorem d_Mo_surely_178 : decode b_Mo_surely 178 = .ok (.iinc 1 1, 3) := by decide +kernel
theorem d_Mo_surely_181 : decode b_Mo_surely 181 = .ok (.aload_n 0, 1) := by decide +kernel
theorem d_Mo_surely_182 : decode b_Mo_surely 182 = .ok (.getfield 48, 3) := by decide +kernel
theorem d_Mo_surely_185 : decode b_Mo_surely 185 = .ok (.iload_n 3, 1) := by decide +kernel
theorem d_Mo_surely_186 : decode b_Mo_surely 186 = .ok (.iaload, 1) := by decide +kernel
theorem d_Mo_surely_187 : decode b_Mo_surely 187 = .ok (.istore_n 3, 1) := by decide +kernel
theorem d_Mo_surely_188 : decode b_Mo_surely 188 = .ok (.goto (-111), 3) := by decide +kernel
theorem d_Mo_surely_191 : decode b_Mo_surely 191 = .ok (.iinc 2 1, 3) := by decide +kernel
theorem d_Mo_surely_194 : decode b_Mo_surely 194 = .ok (.goto (-134), 3) := by decide +kernel
theorem d_Mo_surely_197 : decode b_Mo_surely 197 = .ok (.return_, 1) := by decide +kernel
set_option maxRecDepth 100000 in
set_option maxHeartbeats 4000000 in
theorem S_Mo_surely_0 {G : Gc} {M : Mc} {Q : State → Prop} {K : Option Value → Hp → Prop} (hG : gok G) (hM : mok G M r_Mo_surely Q K) (v0 : Nat) (h : Hp) (F : X G M Q 2 [(0, .ref v0), (1, .int 0)] [] h) : X G M Q 0 [(0, .ref v0)] [] h := by
  refine x_iconst (v := 0) hM d_Mo_surely_0 (by decide) ?_
  refine x_istore_n (lv2 := [(1, .int 0), (0, .ref v0)]) hM d_Mo_surely_1 rfl (Nat.le_of_ble_eq_true rfl) rfl ?_
  refine x_sub [1, 0] rfl ?_
  exact F
set_option maxRecDepth 100000 in
set_option maxHeartbeats 4000000 in
theorem S_Mo_surely_2 {G : Gc} {M : Mc} {Q : State → Prop} {K : Option Value → Hp → Prop} (hG : gok G) (hM : mok G M r_Mo_surely Q K) (v0 : Nat) (v1 : Int32) (h : Hp) (F : kT h v0 = 12 ∧ (((kI h v0 13) ≤ v1 → (kT h v0 = 12 ∧ kR h v0 21 = some (rf h v0 21) ∧ (kT h v0 = 12 ∧ sem G r_Mo_aims [.ref v0, .ref (rf h v0 21)] h (fun u2 h1 => ∃ x3 : Int32, u2 = some (.int x3) ∧ X G M Q 60 [(0, .ref v0), (1, .int x3), (2, .int 0)] [] h1)))) ∧ (¬ (kI h v0 13) ≤ v1 → X G M Q 12 [(0, .ref v0), (1, .int v1), (2, .int 0)] [] h))) : X G M Q 2 [(0, .ref v0), (1, .int v1)] [] h := by
  refine x_iload_n hM d_Mo_surely_2 rfl 1 rfl ?_
  refine x_aload_n hM d_Mo_surely_3 rfl 0 rfl ?_
  obtain ⟨c8, F⟩ := F
  refine x_geti hG hM ck_Mo 13 (Nat.le_of_ble_eq_true rfl) rfl rfl w_910 rfl d_Mo_surely_4 c8 ?_
  refine x_icmp_ge (tgt := 49) hM d_Mo_surely_7 (by decide) (fun q7 => ?_) (fun q7 => ?_)
  · replace F := F.1 q7
    refine x_aload_n hM d_Mo_surely_49 rfl 0 rfl ?_
    refine x_aload_n hM d_Mo_surely_50 rfl 0 rfl ?_
    obtain ⟨c5, F⟩ := F
    obtain ⟨c6, F⟩ := F
    refine x_getr hG hM ck_Mo 21 (Nat.le_of_ble_eq_true rfl) rfl rfl w_918 rfl d_Mo_surely_51 c5 c6 ?_
    obtain ⟨c4, F⟩ := F
    refine x_callV hG hM (r' := r_Mo_aims) (ci := 11) [.ref (rf h v0 21)] rfl rfl (Nat.le_of_ble_eq_true rfl) yk_Mo_aims ⟨Nat.le_of_ble_eq_true rfl, Nat.le_of_ble_eq_true rfl⟩ w_1124 w_1126 ws_Mo_aims rfl rfl (Nat.le_of_ble_eq_true rfl) d_Mo_surely_54 c4 (sem_mono F ?_)
    intro u2 h1 F
    obtain ⟨x3, rfl, F⟩ := F
    refine x_istore_n (lv2 := [(1, .int x3), (0, .ref v0)]) hM d_Mo_surely_57 rfl (Nat.le_of_ble_eq_true rfl) rfl ?_
    refine x_iconst (v := 0) hM d_Mo_surely_58 (by decide) ?_
    refine x_istore_n (lv2 := [(2, .int 0), (1, .int x3), (0, .ref v0)]) hM d_Mo_surely_59 rfl (Nat.le_of_ble_eq_true rfl) rfl ?_
    refine x_sub [2, 1, 0] rfl ?_
    exact F
  · replace F := F.2 q7
    refine x_iconst (v := 0) hM d_Mo_surely_10 (by decide) ?_
    refine x_istore_n (lv2 := [(2, .int 0), (0, .ref v0), (1, .int v1)]) hM d_Mo_surely_11 rfl (Nat.le_of_ble_eq_true rfl) rfl ?_
    refine x_sub [1, 2, 0] rfl ?_
    exact F
set_option maxRecDepth 100000 in
set_option maxHeartbeats 4000000 in
theorem S_Mo_surely_12 {G : Gc} {M : Mc} {Q : State → Prop} {K : Option Value → Hp → Prop} (hG : gok G) (hM : mok G M r_Mo_surely Q K) (v0 : Nat) (v1 : Int32) (v2 : Int32) (h : Hp) (F : kT h v0 = 12 ∧ (((kI h v0 3) ≤ v2 → X G M Q 2 [(0, .ref v0), (1, .int (v1 + 1))] [] h) ∧ (¬ (kI h v0 3) ≤ v2 → (kT h v0 = 12 ∧ kR h v0 24 = some (rf h v0 24) ∧ (kT h v0 = 12 ∧ kR h v0 4 = some (rf h v0 4) ∧ (kT h (rf h v0 4) = 50 ∧ vp_in v2 (kN h (rf h v0 4)) ∧ (kT h (rf h v0 24) = 50 ∧ vp_in ((12 * v1) + v2) (kN h (rf h v0 24)) ∧ (∀ h1 : Hp, h1 = wI h (rf h v0 24) (Int32.toNatClampNeg ((12 * v1) + v2)) (kI h (rf h v0 4) (Int32.toNatClampNeg v2)) → X G M Q 12 [(0, .ref v0), (1, .int v1), (2, .int (v2 + 1))] [] h1)))))))) : X G M Q 12 [(0, .ref v0), (1, .int v1), (2, .int v2)] [] h := by
  refine x_iload_n hM d_Mo_surely_12 rfl 2 rfl ?_
  refine x_aload_n hM d_Mo_surely_13 rfl 0 rfl ?_
  obtain ⟨c11, F⟩ := F
  refine x_geti hG hM ck_Mo 3 (Nat.le_of_ble_eq_true rfl) rfl rfl w_900 rfl d_Mo_surely_14 c11 ?_
  refine x_icmp_ge (tgt := 43) hM d_Mo_surely_17 (by decide) (fun q10 => ?_) (fun q10 => ?_)
  · replace F := F.1 q10
    refine x_iinc (v := (v1 + 1)) (lv2 := [(1, .int (v1 + 1)), (0, .ref v0), (2, .int v2)]) hM d_Mo_surely_43 (j := 1) rfl rfl (Nat.le_of_ble_eq_true rfl) rfl ?_
    refine x_goto (tgt := 2) hM d_Mo_surely_46 (by decide) ?_
    refine x_sub [1, 0] rfl ?_
    exact F
  · replace F := F.2 q10
    refine x_aload_n hM d_Mo_surely_20 rfl 0 rfl ?_
    obtain ⟨c8, F⟩ := F
    obtain ⟨c9, F⟩ := F
    refine x_getr hG hM ck_Mo 24 (Nat.le_of_ble_eq_true rfl) rfl rfl w_921 rfl d_Mo_surely_21 c8 c9 ?_
    refine x_bipush (v := 12) hM d_Mo_surely_24 (by decide) ?_
    refine x_iload_n hM d_Mo_surely_26 rfl 1 rfl ?_
    refine x_imul hM d_Mo_surely_27 ?_
    refine x_iload_n hM d_Mo_surely_28 rfl 2 rfl ?_
    refine x_iadd hM d_Mo_surely_29 ?_
    refine x_aload_n hM d_Mo_surely_30 rfl 0 rfl ?_
    obtain ⟨c6, F⟩ := F
    obtain ⟨c7, F⟩ := F
    refine x_getr hG hM ck_Mo 4 (Nat.le_of_ble_eq_true rfl) rfl rfl w_901 rfl d_Mo_surely_31 c6 c7 ?_
    refine x_iload_n hM d_Mo_surely_34 rfl 2 rfl ?_
    obtain ⟨c4, F⟩ := F
    obtain ⟨c5, F⟩ := F
    refine x_iaload hG hM d_Mo_surely_35 c4 c5 ?_
    obtain ⟨c2, F⟩ := F
    obtain ⟨c3, F⟩ := F
    obtain ⟨h1, eh1⟩ : ∃ z : Hp, z = wI h (rf h v0 24) (Int32.toNatClampNeg ((12 * v1) + v2)) (kI h (rf h v0 4) (Int32.toNatClampNeg v2)) := ⟨_, rfl⟩
    replace F := F h1 eh1
    refine x_iastore hG hM d_Mo_surely_36 c2 c3 ?_
    rw [← eh1]
    clear eh1
    refine x_iinc (v := (v2 + 1)) (lv2 := [(2, .int (v2 + 1)), (0, .ref v0), (1, .int v1)]) hM d_Mo_surely_37 (j := 2) rfl rfl (Nat.le_of_ble_eq_true rfl) rfl ?_
    refine x_goto (tgt := 12) hM d_Mo_surely_40 (by decide) ?_
    refine x_sub [1, 2, 0] rfl ?_
    exact F
set_option maxRecDepth 100000 in
set_option maxHeartbeats 4000000 in
theorem S_Mo_surely_60 {G : Gc} {M : Mc} {Q : State → Prop} {K : Option Value → Hp → Prop} (hG : gok G) (hM : mok G M r_Mo_surely Q K) (v0 : Nat) (v1 : Int32) (v2 : Int32) (h : Hp) (F : (v1 ≤ v2 → K none h) ∧ (¬ v1 ≤ v2 → (kT h v0 = 12 ∧ kR h v0 16 = some (rf h v0 16) ∧ (kT h v0 = 12 ∧ kR h v0 23 = some (rf h v0 23) ∧ (kT h (rf h v0 23) = 50 ∧ vp_in v2 (kN h (rf h v0 23)) ∧ (kT h (rf h v0 16) = 50 ∧ vp_in (kI h (rf h v0 23) (Int32.toNatClampNeg v2)) (kN h (rf h v0 16)) ∧ X G M Q 77 [(0, .ref v0), (1, .int v1), (2, .int v2), (3, .int (kI h (rf h v0 16) (Int32.toNatClampNeg (kI h (rf h v0 23) (Int32.toNatClampNeg v2)))))] [] h)))))) : X G M Q 60 [(0, .ref v0), (1, .int v1), (2, .int v2)] [] h := by
  refine x_iload_n hM d_Mo_surely_60 rfl 2 rfl ?_
  refine x_iload_n hM d_Mo_surely_61 rfl 1 rfl ?_
  refine x_icmp_ge (tgt := 197) hM d_Mo_surely_62 (by decide) (fun q9 => ?_) (fun q9 => ?_)
  · replace F := F.1 q9
    exact x_return hM d_Mo_surely_197 rfl F
  · replace F := F.2 q9
    refine x_aload_n hM d_Mo_surely_65 rfl 0 rfl ?_
    obtain ⟨c7, F⟩ := F
    obtain ⟨c8, F⟩ := F
    refine x_getr hG hM ck_Mo 16 (Nat.le_of_ble_eq_true rfl) rfl rfl w_913 rfl d_Mo_surely_66 c7 c8 ?_
    refine x_aload_n hM d_Mo_surely_69 rfl 0 rfl ?_
    obtain ⟨c5, F⟩ := F
    obtain ⟨c6, F⟩ := F
    refine x_getr hG hM ck_Mo 23 (Nat.le_of_ble_eq_true rfl) rfl rfl w_920 rfl d_Mo_surely_70 c5 c6 ?_
    refine x_iload_n hM d_Mo_surely_73 rfl 2 rfl ?_
    obtain ⟨c3, F⟩ := F
    obtain ⟨c4, F⟩ := F
    refine x_iaload hG hM d_Mo_surely_74 c3 c4 ?_
    obtain ⟨c1, F⟩ := F
    obtain ⟨c2, F⟩ := F
    refine x_iaload hG hM d_Mo_surely_75 c1 c2 ?_
    refine x_istore_n (lv2 := [(3, .int (kI h (rf h v0 16) (Int32.toNatClampNeg (kI h (rf h v0 23) (Int32.toNatClampNeg v2))))), (0, .ref v0), (1, .int v1), (2, .int v2)]) hM d_Mo_surely_76 rfl (Nat.le_of_ble_eq_true rfl) rfl ?_
    refine x_sub [1, 2, 3, 0] rfl ?_
    exact F
set_option maxRecDepth 100000 in
set_option maxHeartbeats 4000000 in
theorem S_Mo_surely_77 {G : Gc} {M : Mc} {Q : State → Prop} {K : Option Value → Hp → Prop} (hG : gok G) (hM : mok G M r_Mo_surely Q K) (v0 : Nat) (v1 : Int32) (v2 : Int32) (v3 : Int32) (h : Hp) (F : (v3 = (-1) → X G M Q 60 [(0, .ref v0), (1, .int v1), (2, .int (v2 + 1))] [] h) ∧ (¬ v3 = (-1) → (kT h v0 = 12 ∧ kR h v0 17 = some (rf h v0 17) ∧ (kT h (rf h v0 17) = 50 ∧ vp_in v3 (kN h (rf h v0 17)) ∧ (kT h v0 = 12 ∧ kR h v0 17 = some (rf h v0 17) ∧ (kT h (rf h v0 17) = 50 ∧ vp_in v3 (kN h (rf h v0 17)) ∧ (kT h v0 = 12 ∧ kR h v0 24 = some (rf h v0 24) ∧ (kT h (rf h v0 24) = 50 ∧ vp_in ((12 * ((kI h (rf h v0 17) (Int32.toNatClampNeg v3)) / 36)) + (((kI h (rf h v0 17) (Int32.toNatClampNeg v3)) - (kI h (rf h v0 17) (Int32.toNatClampNeg v3)) / 36 * 36) / 3)) (kN h (rf h v0 24)) ∧ (kT h (rf h v0 24) = 50 ∧ vp_in ((12 * ((kI h (rf h v0 17) (Int32.toNatClampNeg v3)) / 36)) + (((kI h (rf h v0 17) (Int32.toNatClampNeg v3)) - (kI h (rf h v0 17) (Int32.toNatClampNeg v3)) / 36 * 36) / 3)) (kN h (rf h v0 24)) ∧ (∀ h1 : Hp, h1 = wI h (rf h v0 24) (Int32.toNatClampNeg ((12 * ((kI h (rf h v0 17) (Int32.toNatClampNeg v3)) / 36)) + (((kI h (rf h v0 17) (Int32.toNatClampNeg v3)) - (kI h (rf h v0 17) (Int32.toNatClampNeg v3)) / 36 * 36) / 3))) ((kI h (rf h v0 24) (Int32.toNatClampNeg ((12 * ((kI h (rf h v0 17) (Int32.toNatClampNeg v3)) / 36)) + (((kI h (rf h v0 17) (Int32.toNatClampNeg v3)) - (kI h (rf h v0 17) (Int32.toNatClampNeg v3)) / 36 * 36) / 3)))) - 1) → (kT h1 v0 = 12 ∧ kR h1 v0 24 = some (rf h1 v0 24) ∧ (kT h1 (rf h1 v0 24) = 50 ∧ vp_in ((12 * ((kI h (rf h v0 17) (Int32.toNatClampNeg v3)) / 36)) + (((kI h (rf h v0 17) (Int32.toNatClampNeg v3)) - (kI h (rf h v0 17) (Int32.toNatClampNeg v3)) / 36 * 36) / 3)) (kN h1 (rf h1 v0 24)) ∧ (((kI h1 (rf h1 v0 24) (Int32.toNatClampNeg ((12 * ((kI h (rf h v0 17) (Int32.toNatClampNeg v3)) / 36)) + (((kI h (rf h v0 17) (Int32.toNatClampNeg v3)) - (kI h (rf h v0 17) (Int32.toNatClampNeg v3)) / 36 * 36) / 3)))) = 0 → (kT h1 v0 = 12 ∧ kR h1 v0 21 = some (rf h1 v0 21) ∧ (kT h1 (rf h1 v0 21) = 50 ∧ vp_in ((kI h (rf h v0 17) (Int32.toNatClampNeg v3)) / 36) (kN h1 (rf h1 v0 21)) ∧ (((kI h1 (rf h1 v0 21) (Int32.toNatClampNeg ((kI h (rf h v0 17) (Int32.toNatClampNeg v3)) / 36))) = (-1) → (kT h1 v0 = 12 ∧ kR h1 v0 21 = some (rf h1 v0 21) ∧ (kT h1 v0 = 12 ∧ kR h1 v0 21 = some (rf h1 v0 21) ∧ (kT h1 v0 = 12 ∧ kR h1 v0 23 = some (rf h1 v0 23) ∧ (kT h1 (rf h1 v0 23) = 50 ∧ vp_in v2 (kN h1 (rf h1 v0 23)) ∧ (kT h1 (rf h1 v0 21) = 50 ∧ vp_in (kI h1 (rf h1 v0 23) (Int32.toNatClampNeg v2)) (kN h1 (rf h1 v0 21)) ∧ (kT h1 (rf h1 v0 21) = 50 ∧ vp_in ((kI h (rf h v0 17) (Int32.toNatClampNeg v3)) / 36) (kN h1 (rf h1 v0 21)) ∧ (∀ h10 : Hp, h10 = wI h1 (rf h1 v0 21) (Int32.toNatClampNeg ((kI h (rf h v0 17) (Int32.toNatClampNeg v3)) / 36)) ((kI h1 (rf h1 v0 21) (Int32.toNatClampNeg (kI h1 (rf h1 v0 23) (Int32.toNatClampNeg v2)))) + 1) → (kT h10 v0 = 12 ∧ kR h10 v0 23 = some (rf h10 v0 23) ∧ (kT h10 (rf h10 v0 23) = 50 ∧ vp_in v1 (kN h10 (rf h10 v0 23)) ∧ (∀ h11 : Hp, h11 = wI h10 (rf h10 v0 23) (Int32.toNatClampNeg v1) ((kI h (rf h v0 17) (Int32.toNatClampNeg v3)) / 36) → (kT h11 v0 = 12 ∧ kR h11 v0 18 = some (rf h11 v0 18) ∧ (kT h11 (rf h11 v0 18) = 50 ∧ vp_in v3 (kN h11 (rf h11 v0 18)) ∧ X G M Q 77 [(0, .ref v0), (1, .int (v1 + 1)), (2, .int v2), (3, .int (kI h11 (rf h11 v0 18) (Int32.toNatClampNeg v3)))] [] h11))))))))))))) ∧ (¬ (kI h1 (rf h1 v0 21) (Int32.toNatClampNeg ((kI h (rf h v0 17) (Int32.toNatClampNeg v3)) / 36))) = (-1) → (kT h1 v0 = 12 ∧ kR h1 v0 18 = some (rf h1 v0 18) ∧ (kT h1 (rf h1 v0 18) = 50 ∧ vp_in v3 (kN h1 (rf h1 v0 18)) ∧ X G M Q 77 [(0, .ref v0), (1, .int v1), (2, .int v2), (3, .int (kI h1 (rf h1 v0 18) (Int32.toNatClampNeg v3)))] [] h1))))))) ∧ (¬ (kI h1 (rf h1 v0 24) (Int32.toNatClampNeg ((12 * ((kI h (rf h v0 17) (Int32.toNatClampNeg v3)) / 36)) + (((kI h (rf h v0 17) (Int32.toNatClampNeg v3)) - (kI h (rf h v0 17) (Int32.toNatClampNeg v3)) / 36 * 36) / 3)))) = 0 → (kT h1 v0 = 12 ∧ kR h1 v0 18 = some (rf h1 v0 18) ∧ (kT h1 (rf h1 v0 18) = 50 ∧ vp_in v3 (kN h1 (rf h1 v0 18)) ∧ X G M Q 77 [(0, .ref v0), (1, .int v1), (2, .int v2), (3, .int (kI h1 (rf h1 v0 18) (Int32.toNatClampNeg v3)))] [] h1)))))))))))))))) : X G M Q 77 [(0, .ref v0), (1, .int v1), (2, .int v2), (3, .int v3)] [] h := by
  refine x_iload_n hM d_Mo_surely_77 rfl 3 rfl ?_
  refine x_iconst (v := (-1)) hM d_Mo_surely_78 (by decide) ?_
  refine x_icmp_eq (tgt := 191) hM d_Mo_surely_79 (by decide) (fun q56 => ?_) (fun q56 => ?_)
  · replace F := F.1 q56
    refine x_iinc (v := (v2 + 1)) (lv2 := [(2, .int (v2 + 1)), (0, .ref v0), (1, .int v1), (3, .int v3)]) hM d_Mo_surely_191 (j := 2) rfl rfl (Nat.le_of_ble_eq_true rfl) rfl ?_
    refine x_goto (tgt := 60) hM d_Mo_surely_194 (by decide) ?_
    refine x_sub [1, 2, 0] rfl ?_
    exact F
  · replace F := F.2 q56
    refine x_aload_n hM d_Mo_surely_82 rfl 0 rfl ?_
    obtain ⟨c54, F⟩ := F
    obtain ⟨c55, F⟩ := F
    refine x_getr hG hM ck_Mo 17 (Nat.le_of_ble_eq_true rfl) rfl rfl w_914 rfl d_Mo_surely_83 c54 c55 ?_
    refine x_iload_n hM d_Mo_surely_86 rfl 3 rfl ?_
    obtain ⟨c52, F⟩ := F
    obtain ⟨c53, F⟩ := F
    refine x_iaload hG hM d_Mo_surely_87 c52 c53 ?_
    refine x_bipush (v := 36) hM d_Mo_surely_88 (by decide) ?_
    refine x_idiv hM d_Mo_surely_90 (by decide) ?_
    refine x_istore (lv2 := [(4, .int ((kI h (rf h v0 17) (Int32.toNatClampNeg v3)) / 36)), (0, .ref v0), (1, .int v1), (2, .int v2), (3, .int v3)]) hM d_Mo_surely_91 (Nat.le_of_ble_eq_true rfl) rfl ?_
    refine x_aload_n hM d_Mo_surely_93 rfl 1 rfl ?_
    obtain ⟨c50, F⟩ := F
    obtain ⟨c51, F⟩ := F
    refine x_getr hG hM ck_Mo 17 (Nat.le_of_ble_eq_true rfl) rfl rfl w_914 rfl d_Mo_surely_94 c50 c51 ?_
    refine x_iload_n hM d_Mo_surely_97 rfl 4 rfl ?_
    obtain ⟨c48, F⟩ := F
    obtain ⟨c49, F⟩ := F
    refine x_iaload hG hM d_Mo_surely_98 c48 c49 ?_
    refine x_bipush (v := 36) hM d_Mo_surely_99 (by decide) ?_
    refine x_irem hM d_Mo_surely_101 (by decide) ?_
    refine x_iconst (v := 3) hM d_Mo_surely_102 (by decide) ?_
    refine x_idiv hM d_Mo_surely_103 (by decide) ?_
    refine x_istore (lv2 := [(5, .int (((kI h (rf h v0 17) (Int32.toNatClampNeg v3)) - (kI h (rf h v0 17) (Int32.toNatClampNeg v3)) / 36 * 36) / 3)), (4, .int ((kI h (rf h v0 17) (Int32.toNatClampNeg v3)) / 36)), (0, .ref v0), (1, .int v1), (2, .int v2), (3, .int v3)]) hM d_Mo_surely_104 (Nat.le_of_ble_eq_true rfl) rfl ?_
    refine x_aload_n hM d_Mo_surely_106 rfl 2 rfl ?_
    obtain ⟨c46, F⟩ := F
    obtain ⟨c47, F⟩ := F
    refine x_getr hG hM ck_Mo 24 (Nat.le_of_ble_eq_true rfl) rfl rfl w_921 rfl d_Mo_surely_107 c46 c47 ?_
    refine x_bipush (v := 12) hM d_Mo_surely_110 (by decide) ?_
    refine x_iload hM d_Mo_surely_112 1 rfl ?_
    refine x_imul hM d_Mo_surely_114 ?_
    refine x_iload hM d_Mo_surely_115 0 rfl ?_
    refine x_iadd hM d_Mo_surely_117 ?_
    refine x_dup2 hM d_Mo_surely_118 rfl rfl ?_
    obtain ⟨c44, F⟩ := F
    obtain ⟨c45, F⟩ := F
    refine x_iaload hG hM d_Mo_surely_119 c44 c45 ?_
    refine x_iconst (v := 1) hM d_Mo_surely_120 (by decide) ?_
    refine x_isub hM d_Mo_surely_121 ?_
    obtain ⟨c42, F⟩ := F
    obtain ⟨c43, F⟩ := F
    obtain ⟨h1, eh1⟩ : ∃ z : Hp, z = wI h (rf h v0 24) (Int32.toNatClampNeg ((12 * ((kI h (rf h v0 17) (Int32.toNatClampNeg v3)) / 36)) + (((kI h (rf h v0 17) (Int32.toNatClampNeg v3)) - (kI h (rf h v0 17) (Int32.toNatClampNeg v3)) / 36 * 36) / 3))) ((kI h (rf h v0 24) (Int32.toNatClampNeg ((12 * ((kI h (rf h v0 17) (Int32.toNatClampNeg v3)) / 36)) + (((kI h (rf h v0 17) (Int32.toNatClampNeg v3)) - (kI h (rf h v0 17) (Int32.toNatClampNeg v3)) / 36 * 36) / 3)))) - 1) := ⟨_, rfl⟩
    replace F := F h1 eh1
    refine x_iastore hG hM d_Mo_surely_122 c42 c43 ?_
    rw [← eh1]
    clear eh1
    refine x_aload_n hM d_Mo_surely_123 rfl 2 rfl ?_
    obtain ⟨c40, F⟩ := F
    obtain ⟨c41, F⟩ := F
    refine x_getr hG hM ck_Mo 24 (Nat.le_of_ble_eq_true rfl) rfl rfl w_921 rfl d_Mo_surely_124 c40 c41 ?_
    refine x_bipush (v := 12) hM d_Mo_surely_127 (by decide) ?_
    refine x_iload hM d_Mo_surely_129 1 rfl ?_
    refine x_imul hM d_Mo_surely_131 ?_
    refine x_iload hM d_Mo_surely_132 0 rfl ?_
    refine x_iadd hM d_Mo_surely_134 ?_
    obtain ⟨c38, F⟩ := F
    obtain ⟨c39, F⟩ := F
    refine x_iaload hG hM d_Mo_surely_135 c38 c39 ?_
    refine x_if_ne (tgt := 181) hM d_Mo_surely_136 (by decide) (fun q37 => ?_) (fun q37 => ?_)
    · replace F := F.2 q37
      refine x_aload_n hM d_Mo_surely_181 rfl 2 rfl ?_
      obtain ⟨c4, F⟩ := F
      obtain ⟨c5, F⟩ := F
      refine x_getr hG hM ck_Mo 18 (Nat.le_of_ble_eq_true rfl) rfl rfl w_915 rfl d_Mo_surely_182 c4 c5 ?_
      refine x_iload_n hM d_Mo_surely_185 rfl 5 rfl ?_
      obtain ⟨c2, F⟩ := F
      obtain ⟨c3, F⟩ := F
      refine x_iaload hG hM d_Mo_surely_186 c2 c3 ?_
      refine x_istore_n (lv2 := [(3, .int (kI h1 (rf h1 v0 18) (Int32.toNatClampNeg v3))), (5, .int (((kI h (rf h v0 17) (Int32.toNatClampNeg v3)) - (kI h (rf h v0 17) (Int32.toNatClampNeg v3)) / 36 * 36) / 3)), (4, .int ((kI h (rf h v0 17) (Int32.toNatClampNeg v3)) / 36)), (0, .ref v0), (1, .int v1), (2, .int v2)]) hM d_Mo_surely_187 rfl (Nat.le_of_ble_eq_true rfl) rfl ?_
      refine x_goto (tgt := 77) hM d_Mo_surely_188 (by decide) ?_
      refine x_sub [3, 4, 5, 0] rfl ?_
      exact F
    · replace F := F.1 q37
      refine x_aload_n hM d_Mo_surely_139 rfl 2 rfl ?_
      obtain ⟨c35, F⟩ := F
      obtain ⟨c36, F⟩ := F
      refine x_getr hG hM ck_Mo 21 (Nat.le_of_ble_eq_true rfl) rfl rfl w_918 rfl d_Mo_surely_140 c35 c36 ?_
      refine x_iload hM d_Mo_surely_143 1 rfl ?_
      obtain ⟨c33, F⟩ := F
      obtain ⟨c34, F⟩ := F
      refine x_iaload hG hM d_Mo_surely_145 c33 c34 ?_
      refine x_iconst (v := (-1)) hM d_Mo_surely_146 (by decide) ?_
      refine x_icmp_ne (tgt := 181) hM d_Mo_surely_147 (by decide) (fun q32 => ?_) (fun q32 => ?_)
      · replace F := F.2 q32
        refine x_aload_n hM d_Mo_surely_181 rfl 2 rfl ?_
        obtain ⟨c8, F⟩ := F
        obtain ⟨c9, F⟩ := F
        refine x_getr hG hM ck_Mo 18 (Nat.le_of_ble_eq_true rfl) rfl rfl w_915 rfl d_Mo_surely_182 c8 c9 ?_
        refine x_iload_n hM d_Mo_surely_185 rfl 5 rfl ?_
        obtain ⟨c6, F⟩ := F
        obtain ⟨c7, F⟩ := F
        refine x_iaload hG hM d_Mo_surely_186 c6 c7 ?_
        refine x_istore_n (lv2 := [(3, .int (kI h1 (rf h1 v0 18) (Int32.toNatClampNeg v3))), (5, .int (((kI h (rf h v0 17) (Int32.toNatClampNeg v3)) - (kI h (rf h v0 17) (Int32.toNatClampNeg v3)) / 36 * 36) / 3)), (4, .int ((kI h (rf h v0 17) (Int32.toNatClampNeg v3)) / 36)), (0, .ref v0), (1, .int v1), (2, .int v2)]) hM d_Mo_surely_187 rfl (Nat.le_of_ble_eq_true rfl) rfl ?_
        refine x_goto (tgt := 77) hM d_Mo_surely_188 (by decide) ?_
        refine x_sub [3, 4, 5, 0] rfl ?_
        exact F
      · replace F := F.1 q32
        refine x_aload_n hM d_Mo_surely_150 rfl 2 rfl ?_
        obtain ⟨c30, F⟩ := F
        obtain ⟨c31, F⟩ := F
        refine x_getr hG hM ck_Mo 21 (Nat.le_of_ble_eq_true rfl) rfl rfl w_918 rfl d_Mo_surely_151 c30 c31 ?_
        refine x_iload hM d_Mo_surely_154 1 rfl ?_
        refine x_aload_n hM d_Mo_surely_156 rfl 2 rfl ?_
        obtain ⟨c28, F⟩ := F
        obtain ⟨c29, F⟩ := F
        refine x_getr hG hM ck_Mo 21 (Nat.le_of_ble_eq_true rfl) rfl rfl w_918 rfl d_Mo_surely_157 c28 c29 ?_
        refine x_aload_n hM d_Mo_surely_160 rfl 2 rfl ?_
        obtain ⟨c26, F⟩ := F
        obtain ⟨c27, F⟩ := F
        refine x_getr hG hM ck_Mo 23 (Nat.le_of_ble_eq_true rfl) rfl rfl w_920 rfl d_Mo_surely_161 c26 c27 ?_
        refine x_iload_n hM d_Mo_surely_164 rfl 4 rfl ?_
        obtain ⟨c24, F⟩ := F
        obtain ⟨c25, F⟩ := F
        refine x_iaload hG hM d_Mo_surely_165 c24 c25 ?_
        obtain ⟨c22, F⟩ := F
        obtain ⟨c23, F⟩ := F
        refine x_iaload hG hM d_Mo_surely_166 c22 c23 ?_
        refine x_iconst (v := 1) hM d_Mo_surely_167 (by decide) ?_
        refine x_iadd hM d_Mo_surely_168 ?_
        obtain ⟨c20, F⟩ := F
        obtain ⟨c21, F⟩ := F
        obtain ⟨h10, eh10⟩ : ∃ z : Hp, z = wI h1 (rf h1 v0 21) (Int32.toNatClampNeg ((kI h (rf h v0 17) (Int32.toNatClampNeg v3)) / 36)) ((kI h1 (rf h1 v0 21) (Int32.toNatClampNeg (kI h1 (rf h1 v0 23) (Int32.toNatClampNeg v2)))) + 1) := ⟨_, rfl⟩
        replace F := F h10 eh10
        refine x_iastore hG hM d_Mo_surely_169 c20 c21 ?_
        rw [← eh10]
        clear eh10
        refine x_aload_n hM d_Mo_surely_170 rfl 2 rfl ?_
        obtain ⟨c18, F⟩ := F
        obtain ⟨c19, F⟩ := F
        refine x_getr hG hM ck_Mo 23 (Nat.le_of_ble_eq_true rfl) rfl rfl w_920 rfl d_Mo_surely_171 c18 c19 ?_
        refine x_iload_n hM d_Mo_surely_174 rfl 3 rfl ?_
        refine x_iload hM d_Mo_surely_175 1 rfl ?_
        obtain ⟨c16, F⟩ := F
        obtain ⟨c17, F⟩ := F
        obtain ⟨h11, eh11⟩ : ∃ z : Hp, z = wI h10 (rf h10 v0 23) (Int32.toNatClampNeg v1) ((kI h (rf h v0 17) (Int32.toNatClampNeg v3)) / 36) := ⟨_, rfl⟩
        replace F := F h11 eh11
        refine x_iastore hG hM d_Mo_surely_177 c16 c17 ?_
        rw [← eh11]
        clear eh11
        refine x_iinc (v := (v1 + 1)) (lv2 := [(1, .int (v1 + 1)), (5, .int (((kI h (rf h v0 17) (Int32.toNatClampNeg v3)) - (kI h (rf h v0 17) (Int32.toNatClampNeg v3)) / 36 * 36) / 3)), (4, .int ((kI h (rf h v0 17) (Int32.toNatClampNeg v3)) / 36)), (0, .ref v0), (2, .int v2), (3, .int v3)]) hM d_Mo_surely_178 (j := 3) rfl rfl (Nat.le_of_ble_eq_true rfl) rfl ?_
        refine x_aload_n hM d_Mo_surely_181 rfl 3 rfl ?_
        obtain ⟨c14, F⟩ := F
        obtain ⟨c15, F⟩ := F
        refine x_getr hG hM ck_Mo 18 (Nat.le_of_ble_eq_true rfl) rfl rfl w_915 rfl d_Mo_surely_182 c14 c15 ?_
        refine x_iload_n hM d_Mo_surely_185 rfl 5 rfl ?_
        obtain ⟨c12, F⟩ := F
        obtain ⟨c13, F⟩ := F
        refine x_iaload hG hM d_Mo_surely_186 c12 c13 ?_
        refine x_istore_n (lv2 := [(3, .int (kI h11 (rf h11 v0 18) (Int32.toNatClampNeg v3))), (1, .int (v1 + 1)), (5, .int (((kI h (rf h v0 17) (Int32.toNatClampNeg v3)) - (kI h (rf h v0 17) (Int32.toNatClampNeg v3)) / 36 * 36) / 3)), (4, .int ((kI h (rf h v0 17) (Int32.toNatClampNeg v3)) / 36)), (0, .ref v0), (2, .int v2)]) hM d_Mo_surely_187 rfl (Nat.le_of_ble_eq_true rfl) rfl ?_
        refine x_goto (tgt := 77) hM d_Mo_surely_188 (by decide) ?_
        refine x_sub [4, 1, 5, 0] rfl ?_
        exact F
