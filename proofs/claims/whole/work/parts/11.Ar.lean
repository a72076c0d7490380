theorem d_Ar_fill_0 : decode b_Ar_fill 0 = .ok (.aload_n 0, 1) := by decide +kernel
theorem d_Ar_fill_1 : decode b_Ar_fill 1 = .ok (.arraylength, 1) := by decide +kernel
theorem d_Ar_fill_2 : decode b_Ar_fill 2 = .ok (.iload_n 1, 1) := by decide +kernel
theorem d_Ar_fill_3 : decode b_Ar_fill 3 = .ok (.iload_n 2, 1) := by decide +kernel
theorem d_Ar_fill_4 : decode b_Ar_fill 4 = .ok (.invokestatic 13, 3) := by decide +kernel
theorem d_Ar_fill_7 : decode b_Ar_fill 7 = .ok (.iload_n 1, 1) := by decide +kernel
theorem d_Ar_fill_8 : decode b_Ar_fill 8 = .ok (.istore 4, 2) := by decide +kernel
theorem d_Ar_fill_10 : decode b_Ar_fill 10 = .ok (.iload 4, 2) := by decide +kernel
theorem d_Ar_fill_12 : decode b_Ar_fill 12 = .ok (.iload_n 2, 1) := by decide +kernel
theorem d_Ar_fill_13 : decode b_Ar_fill 13 = .ok (.if_icmp .ge 14, 3) := by decide +kernel
theorem d_Ar_fill_16 : decode b_Ar_fill 16 = .ok (.aload_n 0, 1) := by decide +kernel
theorem d_Ar_fill_17 : decode b_Ar_fill 17 = .ok (.iload 4, 2) := by decide +kernel
theorem d_Ar_fill_19 : decode b_Ar_fill 19 = .ok (.iload_n 3, 1) := by decide +kernel
theorem d_Ar_fill_20 : decode b_Ar_fill 20 = .ok (.iastore, 1) := by decide +kernel
theorem d_Ar_fill_21 : decode b_Ar_fill 21 = .ok (.iinc 4 1, 3) := by decide +kernel
theorem d_Ar_fill_24 : decode b_Ar_fill 24 = .ok (.goto (-14), 3) := by decide +kernel
theorem d_Ar_fill_27 : decode b_Ar_fill 27 = .ok (.return_, 1) := by decide +kernel
set_option maxRecDepth 100000 in
set_option maxHeartbeats 4000000 in
theorem S_Ar_fill_0 {G : Gc} {M : Mc} {Q : State → Prop} {K : Option Value → Hp → Prop} (hG : gok G) (hM : mok G M r_Ar_fill Q K) (v0 : Nat) (v1 : Int32) (v2 : Int32) (v3 : Int32) (h : Hp) (F : kT h v0 = 50 ∧ (sem G r_Ar_rangeCheck [.int (nI (kN h v0)), .int v1, .int v2] h (fun u2 h1 => u2 = none ∧ X G M Q 10 [(0, .ref v0), (2, .int v2), (3, .int v3), (4, .int v1)] [] h1))) : X G M Q 0 [(0, .ref v0), (1, .int v1), (2, .int v2), (3, .int v3)] [] h := by
  refine x_aload_n hM d_Ar_fill_0 rfl 0 rfl ?_
  obtain ⟨c3, F⟩ := F
  refine x_alen hG hM 50 rfl (Nat.le_of_ble_eq_true rfl) d_Ar_fill_1 c3 ?_
  refine x_iload_n hM d_Ar_fill_2 rfl 1 rfl ?_
  refine x_iload_n hM d_Ar_fill_3 rfl 2 rfl ?_
  refine x_callS hG hM (r' := r_Ar_rangeCheck) [.int (nI (kN h v0)), .int v1, .int v2] rfl yk_Ar_rangeCheck ⟨Nat.le_of_ble_eq_true rfl, Nat.le_of_ble_eq_true rfl⟩ w_606 w_607 rfl rfl (Nat.le_of_ble_eq_true rfl) d_Ar_fill_4 (sem_mono F ?_)
  intro u2 h1 F
  obtain ⟨rfl, F⟩ := F
  refine x_iload_n hM d_Ar_fill_7 rfl 1 rfl ?_
  refine x_istore (lv2 := [(4, .int v1), (0, .ref v0), (1, .int v1), (2, .int v2), (3, .int v3)]) hM d_Ar_fill_8 (Nat.le_of_ble_eq_true rfl) rfl ?_
  refine x_sub [1, 3, 4, 0] rfl ?_
  exact F
set_option maxRecDepth 100000 in
set_option maxHeartbeats 4000000 in
theorem S_Ar_fill_10 {G : Gc} {M : Mc} {Q : State → Prop} {K : Option Value → Hp → Prop} (hG : gok G) (hM : mok G M r_Ar_fill Q K) (v0 : Nat) (v2 : Int32) (v3 : Int32) (v4 : Int32) (h : Hp) (F : (v2 ≤ v4 → K none h) ∧ (¬ v2 ≤ v4 → (kT h v0 = 50 ∧ vp_in v4 (kN h v0) ∧ (∀ h1 : Hp, h1 = wI h v0 (Int32.toNatClampNeg v4) v3 → X G M Q 10 [(0, .ref v0), (2, .int v2), (3, .int v3), (4, .int (v4 + 1))] [] h1)))) : X G M Q 10 [(0, .ref v0), (2, .int v2), (3, .int v3), (4, .int v4)] [] h := by
  refine x_iload hM d_Ar_fill_10 3 rfl ?_
  refine x_iload_n hM d_Ar_fill_12 rfl 1 rfl ?_
  refine x_icmp_ge (tgt := 27) hM d_Ar_fill_13 (by decide) (fun q4 => ?_) (fun q4 => ?_)
  · replace F := F.1 q4
    exact x_return hM d_Ar_fill_27 rfl F
  · replace F := F.2 q4
    refine x_aload_n hM d_Ar_fill_16 rfl 0 rfl ?_
    refine x_iload hM d_Ar_fill_17 3 rfl ?_
    refine x_iload_n hM d_Ar_fill_19 rfl 2 rfl ?_
    obtain ⟨c2, F⟩ := F
    obtain ⟨c3, F⟩ := F
    obtain ⟨h1, eh1⟩ : ∃ z : Hp, z = wI h v0 (Int32.toNatClampNeg v4) v3 := ⟨_, rfl⟩
    replace F := F h1 eh1
    refine x_iastore hG hM d_Ar_fill_20 c2 c3 ?_
    rw [← eh1]
    clear eh1
    refine x_iinc (v := (v4 + 1)) (lv2 := [(4, .int (v4 + 1)), (0, .ref v0), (2, .int v2), (3, .int v3)]) hM d_Ar_fill_21 (j := 3) rfl rfl (Nat.le_of_ble_eq_true rfl) rfl ?_
    refine x_goto (tgt := 10) hM d_Ar_fill_24 (by decide) ?_
    refine x_sub [1, 2, 3, 0] rfl ?_
    exact F
theorem d_Ar_rangeCheck_0 : decode b_Ar_rangeCheck 0 = .ok (.iload_n 1, 1) := by decide +kernel
theorem d_Ar_rangeCheck_1 : decode b_Ar_rangeCheck 1 = .ok (.iload_n 2, 1) := by decide +kernel
theorem d_Ar_rangeCheck_2 : decode b_Ar_rangeCheck 2 = .ok (.if_icmp .le 44, 3) := by decide +kernel
theorem d_Ar_rangeCheck_8 : decode b_Ar_rangeCheck 8 = .ok (.dup, 1) := by decide +kernel
theorem d_Ar_rangeCheck_12 : decode b_Ar_rangeCheck 12 = .ok (.dup, 1) := by decide +kernel
theorem d_Ar_rangeCheck_13 : decode b_Ar_rangeCheck 13 = .ok (.invokespecial 47, 3) := by decide +kernel
theorem d_Ar_rangeCheck_16 : decode b_Ar_rangeCheck 16 = .ok (.ldc 48, 2) := by decide +kernel
theorem d_Ar_rangeCheck_18 : decode b_Ar_rangeCheck 18 = .ok (.invokevirtual 50, 3) := by decide +kernel
theorem d_Ar_rangeCheck_21 : decode b_Ar_rangeCheck 21 = .ok (.iload_n 1, 1) := by decide +kernel
theorem d_Ar_rangeCheck_22 : decode b_Ar_rangeCheck 22 = .ok (.invokevirtual 54, 3) := by decide +kernel
theorem d_Ar_rangeCheck_25 : decode b_Ar_rangeCheck 25 = .ok (.ldc 57, 2) := by decide +kernel
theorem d_Ar_rangeCheck_27 : decode b_Ar_rangeCheck 27 = .ok (.invokevirtual 50, 3) := by decide +kernel
theorem d_Ar_rangeCheck_30 : decode b_Ar_rangeCheck 30 = .ok (.iload_n 2, 1) := by decide +kernel
theorem d_Ar_rangeCheck_31 : decode b_Ar_rangeCheck 31 = .ok (.invokevirtual 54, 3) := by decide +kernel
theorem d_Ar_rangeCheck_34 : decode b_Ar_rangeCheck 34 = .ok (.ldc 59, 2) := by decide +kernel
theorem d_Ar_rangeCheck_36 : decode b_Ar_rangeCheck 36 = .ok (.invokevirtual 50, 3) := by decide +kernel
theorem d_Ar_rangeCheck_39 : decode b_Ar_rangeCheck 39 = .ok (.invokevirtual 61, 3) := by decide +kernel
theorem d_Ar_rangeCheck_42 : decode b_Ar_rangeCheck 42 = .ok (.invokespecial 65, 3) := by decide +kernel
theorem d_Ar_rangeCheck_46 : decode b_Ar_rangeCheck 46 = .ok (.iload_n 1, 1) := by decide +kernel
theorem d_Ar_rangeCheck_47 : decode b_Ar_rangeCheck 47 = .ok (.ifCond .ge 12, 3) := by decide +kernel
theorem d_Ar_rangeCheck_53 : decode b_Ar_rangeCheck 53 = .ok (.dup, 1) := by decide +kernel
theorem d_Ar_rangeCheck_54 : decode b_Ar_rangeCheck 54 = .ok (.iload_n 1, 1) := by decide +kernel
theorem d_Ar_rangeCheck_55 : decode b_Ar_rangeCheck 55 = .ok (.invokespecial 70, 3) := by decide +kernel
theorem d_Ar_rangeCheck_59 : decode b_Ar_rangeCheck 59 = .ok (.iload_n 2, 1) := by decide +kernel
theorem d_Ar_rangeCheck_60 : decode b_Ar_rangeCheck 60 = .ok (.iload_n 0, 1) := by decide +kernel
theorem d_Ar_rangeCheck_61 : decode b_Ar_rangeCheck 61 = .ok (.if_icmp .le 12, 3) := by decide +kernel
theorem d_Ar_rangeCheck_67 : decode b_Ar_rangeCheck 67 = .ok (.dup, 1) := by decide +kernel
theorem d_Ar_rangeCheck_68 : decode b_Ar_rangeCheck 68 = .ok (.iload_n 2, 1) := by decide +kernel
theorem d_Ar_rangeCheck_69 : decode b_Ar_rangeCheck 69 = .ok (.invokespecial 70, 3) := by decide +kernel
theorem d_Ar_rangeCheck_73 : decode b_Ar_rangeCheck 73 = .ok (.return_, 1) := by decide +kernel
set_option maxRecDepth 100000 in
set_option maxHeartbeats 4000000 in
theorem S_Ar_rangeCheck_0 {G : Gc} {M : Mc} {Q : State → Prop} {K : Option Value → Hp → Prop} (hG : gok G) (hM : mok G M r_Ar_rangeCheck Q K) (v0 : Int32) (v1 : Int32) (v2 : Int32) (h : Hp) (F : (v1 ≤ v2 → ((0 ≤ v1 → ((v2 ≤ v0 → K none h) ∧ (¬ v2 ≤ v0 → False))) ∧ (¬ 0 ≤ v1 → False))) ∧ (¬ v1 ≤ v2 → False)) : X G M Q 0 [(0, .int v0), (1, .int v1), (2, .int v2)] [] h := by
  refine x_iload_n hM d_Ar_rangeCheck_0 rfl 1 rfl ?_
  refine x_iload_n hM d_Ar_rangeCheck_1 rfl 2 rfl ?_
  refine x_icmp_le (tgt := 46) hM d_Ar_rangeCheck_2 (by decide) (fun q3 => ?_) (fun q3 => ?_)
  · replace F := F.1 q3
    refine x_iload_n hM d_Ar_rangeCheck_46 rfl 1 rfl ?_
    refine x_if_ge (tgt := 59) hM d_Ar_rangeCheck_47 (by decide) (fun q2 => ?_) (fun q2 => ?_)
    · replace F := F.1 q2
      refine x_iload_n hM d_Ar_rangeCheck_59 rfl 2 rfl ?_
      refine x_iload_n hM d_Ar_rangeCheck_60 rfl 0 rfl ?_
      refine x_icmp_le (tgt := 73) hM d_Ar_rangeCheck_61 (by decide) (fun q1 => ?_) (fun q1 => ?_)
      · replace F := F.1 q1
        exact x_return hM d_Ar_rangeCheck_73 rfl F
      · replace F := F.2 q1
        exact F.elim
    · replace F := F.2 q2
      exact F.elim
  · replace F := F.2 q3
    exact F.elim
