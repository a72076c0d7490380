theorem d_Wi_firstStep_0 : decode b_Wi_firstStep 0 = .ok (.iconst 0, 1) := by decide +kernel
theorem d_Wi_firstStep_1 : decode b_Wi_firstStep 1 = .ok (.istore_n 3, 1) := by decide +kernel
theorem d_Wi_firstStep_2 : decode b_Wi_firstStep 2 = .ok (.iload_n 3, 1) := by decide +kernel
theorem d_Wi_firstStep_3 : decode b_Wi_firstStep 3 = .ok (.aload_n 1, 1) := by decide +kernel
theorem d_Wi_firstStep_4 : decode b_Wi_firstStep 4 = .ok (.getfield 109, 3) := by decide +kernel
theorem d_Wi_firstStep_7 : decode b_Wi_firstStep 7 = .ok (.if_icmp .ge 92, 3) := by decide +kernel
theorem d_Wi_firstStep_10 : decode b_Wi_firstStep 10 = .ok (.aload_n 1, 1) := by decide +kernel
theorem d_Wi_firstStep_11 : decode b_Wi_firstStep 11 = .ok (.getfield 88, 3) := by decide +kernel
theorem d_Wi_firstStep_14 : decode b_Wi_firstStep 14 = .ok (.iload_n 3, 1) := by decide +kernel
theorem d_Wi_firstStep_15 : decode b_Wi_firstStep 15 = .ok (.aaload, 1) := by decide +kernel
theorem d_Wi_firstStep_16 : decode b_Wi_firstStep 16 = .ok (.astore 4, 2) := by decide +kernel
theorem d_Wi_firstStep_18 : decode b_Wi_firstStep 18 = .ok (.iconst 0, 1) := by decide +kernel
theorem d_Wi_firstStep_19 : decode b_Wi_firstStep 19 = .ok (.istore 5, 2) := by decide +kernel
theorem d_Wi_firstStep_21 : decode b_Wi_firstStep 21 = .ok (.iload 5, 2) := by decide +kernel
theorem d_Wi_firstStep_23 : decode b_Wi_firstStep 23 = .ok (.aload 4, 2) := by decide +kernel
theorem d_Wi_firstStep_25 : decode b_Wi_firstStep 25 = .ok (.getfield 95, 3) := by decide +kernel
theorem d_Wi_firstStep_28 : decode b_Wi_firstStep 28 = .ok (.if_icmp .ge 65, 3) := by decide +kernel
theorem d_Wi_firstStep_31 : decode b_Wi_firstStep 31 = .ok (.aload 4, 2) := by decide +kernel
theorem d_Wi_firstStep_33 : decode b_Wi_firstStep 33 = .ok (.getfield 100, 3) := by decide +kernel
theorem d_Wi_firstStep_36 : decode b_Wi_firstStep 36 = .ok (.iload 5, 2) := by decide +kernel
theorem d_Wi_firstStep_38 : decode b_Wi_firstStep 38 = .ok (.aaload, 1) := by decide +kernel
theorem d_Wi_firstStep_39 : decode b_Wi_firstStep 39 = .ok (.getfield 104, 3) := by decide +kernel
theorem d_Wi_firstStep_42 : decode b_Wi_firstStep 42 = .ok (.iload_n 2, 1) := by decide +kernel
theorem d_Wi_firstStep_43 : decode b_Wi_firstStep 43 = .ok (.iaload, 1) := by decide +kernel
theorem d_Wi_firstStep_44 : decode b_Wi_firstStep 44 = .ok (.istore 6, 2) := by decide +kernel
theorem d_Wi_firstStep_46 : decode b_Wi_firstStep 46 = .ok (.iload 6, 2) := by decide +kernel
theorem d_Wi_firstStep_48 : decode b_Wi_firstStep 48 = .ok (.iconst (-1), 1) := by decide +kernel
theorem d_Wi_firstStep_49 : decode b_Wi_firstStep 49 = .ok (.if_icmp .eq 38, 3) := by decide +kernel
theorem d_Wi_firstStep_52 : decode b_Wi_firstStep 52 = .ok (.aload_n 0, 1) := by decide +kernel
theorem d_Wi_firstStep_53 : decode b_Wi_firstStep 53 = .ok (.getfield 23, 3) := by decide +kernel
theorem d_Wi_firstStep_56 : decode b_Wi_firstStep 56 = .ok (.iload 6, 2) := by decide +kernel
theorem d_Wi_firstStep_58 : decode b_Wi_firstStep 58 = .ok (.iaload, 1) := by decide +kernel
theorem d_Wi_firstStep_59 : decode b_Wi_firstStep 59 = .ok (.iconst (-1), 1) := by decide +kernel
theorem d_Wi_firstStep_60 : decode b_Wi_firstStep 60 = .ok (.if_icmp .eq 27, 3) := by decide +kernel
theorem d_Wi_firstStep_63 : decode b_Wi_firstStep 63 = .ok (.aload_n 0, 1) := by decide +kernel
theorem d_Wi_firstStep_64 : decode b_Wi_firstStep 64 = .ok (.getfield 23, 3) := by decide +kernel
theorem d_Wi_firstStep_67 : decode b_Wi_firstStep 67 = .ok (.iload 6, 2) := by decide +kernel
theorem d_Wi_firstStep_69 : decode b_Wi_firstStep 69 = .ok (.iaload, 1) := by decide +kernel
theorem d_Wi_firstStep_70 : decode b_Wi_firstStep 70 = .ok (.aload_n 0, 1) := by decide +kernel
theorem d_Wi_firstStep_71 : decode b_Wi_firstStep 71 = .ok (.getfield 23, 3) := by decide +kernel
theorem d_Wi_firstStep_74 : decode b_Wi_firstStep 74 = .ok (.iload_n 2, 1) := by decide +kernel
theorem d_Wi_firstStep_75 : decode b_Wi_firstStep 75 = .ok (.iaload, 1) := by decide +kernel
theorem d_Wi_firstStep_76 : decode b_Wi_firstStep 76 = .ok (.if_icmp .ge 11, 3) := by decide +kernel
theorem d_Wi_firstStep_79 : decode b_Wi_firstStep 79 = .ok (.iload_n 3, 1) := by decide +kernel
theorem d_Wi_firstStep_80 : decode b_Wi_firstStep 80 = .ok (.iload 5, 2) := by decide +kernel
theorem d_Wi_firstStep_82 : decode b_Wi_firstStep 82 = .ok (.iload_n 2, 1) := by decide +kernel
theorem d_Wi_firstStep_83 : decode b_Wi_firstStep 83 = .ok (.invokestatic 119, 3) := by decide +kernel
theorem d_Wi_firstStep_86 : decode b_Wi_firstStep 86 = .ok (.ireturn, 1) := by decide +kernel
theorem d_Wi_firstStep_87 : decode b_Wi_firstStep 87 = .ok (.iinc 5 1, 3) := by decide +kernel
theorem d_Wi_firstStep_90 : decode b_Wi_firstStep 90 = .ok (.goto (-69), 3) := by decide +kernel
theorem d_Wi_firstStep_93 : decode b_Wi_firstStep 93 = .ok (.iinc 3 1, 3) := by decide +kernel
theorem d_Wi_firstStep_96 : decode b_Wi_firstStep 96 = .ok (.goto (-94), 3) := by decide +kernel
theorem d_Wi_firstStep_99 : decode b_Wi_firstStep 99 = .ok (.iconst (-1), 1) := by decide +kernel
theorem d_Wi_firstStep_100 : decode b_Wi_firstStep 100 = .ok (.ireturn, 1) := by decide +kernel
set_option maxRecDepth 100000 in
set_option maxHeartbeats 4000000 in
theorem S_Wi_firstStep_0 {G : Gc} {M : Mc} {Q : State → Prop} {K : Option Value → Hp → Prop} (hG : gok G) (hM : mok G M r_Wi_firstStep Q K) (v0 : Nat) (v1 : Nat) (v2 : Int32) (h : Hp) (F : X G M Q 2 [(0, .ref v0), (1, .ref v1), (2, .int v2), (3, .int 0)] [] h) : X G M Q 0 [(0, .ref v0), (1, .ref v1), (2, .int v2)] [] h := by
  refine x_iconst (v := 0) hM d_Wi_firstStep_0 (by decide) ?_
  refine x_istore_n (lv2 := [(3, .int 0), (0, .ref v0), (1, .ref v1), (2, .int v2)]) hM d_Wi_firstStep_1 rfl (Nat.le_of_ble_eq_true rfl) rfl ?_
  refine x_sub [1, 2, 3, 0] rfl ?_
  exact F
set_option maxRecDepth 100000 in
set_option maxHeartbeats 4000000 in
theorem S_Wi_firstStep_2 {G : Gc} {M : Mc} {Q : State → Prop} {K : Option Value → Hp → Prop} (hG : gok G) (hM : mok G M r_Wi_firstStep Q K) (v0 : Nat) (v1 : Nat) (v2 : Int32) (v3 : Int32) (h : Hp) (F : kT h v1 = 2 ∧ (((kI h v1 2) ≤ v3 → K (some (.int (-1))) h) ∧ (¬ (kI h v1 2) ≤ v3 → (kT h v1 = 2 ∧ kR h v1 5 = some (rf h v1 5) ∧ (kT h (rf h v1 5) = 53 ∧ vp_in v3 (kN h (rf h v1 5)) ∧ kR h (rf h v1 5) (Int32.toNatClampNeg v3) = some (rf h (rf h v1 5) (Int32.toNatClampNeg v3)) ∧ X G M Q 21 [(0, .ref v0), (1, .ref v1), (2, .int v2), (3, .int v3), (4, .ref (rf h (rf h v1 5) (Int32.toNatClampNeg v3))), (5, .int 0)] [] h))))) : X G M Q 2 [(0, .ref v0), (1, .ref v1), (2, .int v2), (3, .int v3)] [] h := by
  refine x_iload_n hM d_Wi_firstStep_2 rfl 3 rfl ?_
  refine x_aload_n hM d_Wi_firstStep_3 rfl 1 rfl ?_
  obtain ⟨c7, F⟩ := F
  refine x_geti hG hM ck_Wo 2 (Nat.le_of_ble_eq_true rfl) rfl rfl w_139 rfl d_Wi_firstStep_4 c7 ?_
  refine x_icmp_ge (tgt := 99) hM d_Wi_firstStep_7 (by decide) (fun q6 => ?_) (fun q6 => ?_)
  · replace F := F.1 q6
    refine x_iconst (v := (-1)) hM d_Wi_firstStep_99 (by decide) ?_
    exact x_ireturn hM d_Wi_firstStep_100 rfl F
  · replace F := F.2 q6
    refine x_aload_n hM d_Wi_firstStep_10 rfl 1 rfl ?_
    obtain ⟨c4, F⟩ := F
    obtain ⟨c5, F⟩ := F
    refine x_getr hG hM ck_Wo 5 (Nat.le_of_ble_eq_true rfl) rfl rfl w_148 rfl d_Wi_firstStep_11 c4 c5 ?_
    refine x_iload_n hM d_Wi_firstStep_14 rfl 3 rfl ?_
    obtain ⟨c1, F⟩ := F
    obtain ⟨c2, F⟩ := F
    obtain ⟨c3, F⟩ := F
    refine x_aaload hG hM 53 rfl (Nat.le_of_ble_eq_true rfl) d_Wi_firstStep_15 c1 c2 c3 ?_
    refine x_astore (lv2 := [(4, .ref (rf h (rf h v1 5) (Int32.toNatClampNeg v3))), (0, .ref v0), (1, .ref v1), (2, .int v2), (3, .int v3)]) hM d_Wi_firstStep_16 (Nat.le_of_ble_eq_true rfl) rfl ?_
    refine x_iconst (v := 0) hM d_Wi_firstStep_18 (by decide) ?_
    refine x_istore (lv2 := [(5, .int 0), (4, .ref (rf h (rf h v1 5) (Int32.toNatClampNeg v3))), (0, .ref v0), (1, .ref v1), (2, .int v2), (3, .int v3)]) hM d_Wi_firstStep_19 (Nat.le_of_ble_eq_true rfl) rfl ?_
    refine x_sub [2, 3, 4, 5, 1, 0] rfl ?_
    exact F
set_option maxRecDepth 100000 in
set_option maxHeartbeats 4000000 in
theorem S_Wi_firstStep_21 {G : Gc} {M : Mc} {Q : State → Prop} {K : Option Value → Hp → Prop} (hG : gok G) (hM : mok G M r_Wi_firstStep Q K) (v0 : Nat) (v1 : Nat) (v2 : Int32) (v3 : Int32) (v4 : Nat) (v5 : Int32) (h : Hp) (F : kT h v4 = 3 ∧ (((kI h v4 2) ≤ v5 → X G M Q 2 [(0, .ref v0), (1, .ref v1), (2, .int v2), (3, .int (v3 + 1))] [] h) ∧ (¬ (kI h v4 2) ≤ v5 → (kT h v4 = 3 ∧ kR h v4 1 = some (rf h v4 1) ∧ (kT h (rf h v4 1) = 54 ∧ vp_in v5 (kN h (rf h v4 1)) ∧ kR h (rf h v4 1) (Int32.toNatClampNeg v5) = some (rf h (rf h v4 1) (Int32.toNatClampNeg v5)) ∧ (kT h (rf h (rf h v4 1) (Int32.toNatClampNeg v5)) = 4 ∧ kR h (rf h (rf h v4 1) (Int32.toNatClampNeg v5)) 1 = some (rf h (rf h (rf h v4 1) (Int32.toNatClampNeg v5)) 1) ∧ (kT h (rf h (rf h (rf h v4 1) (Int32.toNatClampNeg v5)) 1) = 50 ∧ vp_in v2 (kN h (rf h (rf h (rf h v4 1) (Int32.toNatClampNeg v5)) 1)) ∧ (((kI h (rf h (rf h (rf h v4 1) (Int32.toNatClampNeg v5)) 1) (Int32.toNatClampNeg v2)) = (-1) → X G M Q 21 [(0, .ref v0), (1, .ref v1), (2, .int v2), (3, .int v3), (4, .ref v4), (5, .int (v5 + 1))] [] h) ∧ (¬ (kI h (rf h (rf h (rf h v4 1) (Int32.toNatClampNeg v5)) 1) (Int32.toNatClampNeg v2)) = (-1) → (kT h v0 = 9 ∧ kR h v0 3 = some (rf h v0 3) ∧ (kT h (rf h v0 3) = 50 ∧ vp_in (kI h (rf h (rf h (rf h v4 1) (Int32.toNatClampNeg v5)) 1) (Int32.toNatClampNeg v2)) (kN h (rf h v0 3)) ∧ (((kI h (rf h v0 3) (Int32.toNatClampNeg (kI h (rf h (rf h (rf h v4 1) (Int32.toNatClampNeg v5)) 1) (Int32.toNatClampNeg v2)))) = (-1) → X G M Q 21 [(0, .ref v0), (1, .ref v1), (2, .int v2), (3, .int v3), (4, .ref v4), (5, .int (v5 + 1))] [] h) ∧ (¬ (kI h (rf h v0 3) (Int32.toNatClampNeg (kI h (rf h (rf h (rf h v4 1) (Int32.toNatClampNeg v5)) 1) (Int32.toNatClampNeg v2)))) = (-1) → (kT h v0 = 9 ∧ kR h v0 3 = some (rf h v0 3) ∧ (kT h (rf h v0 3) = 50 ∧ vp_in (kI h (rf h (rf h (rf h v4 1) (Int32.toNatClampNeg v5)) 1) (Int32.toNatClampNeg v2)) (kN h (rf h v0 3)) ∧ (kT h v0 = 9 ∧ kR h v0 3 = some (rf h v0 3) ∧ (kT h (rf h v0 3) = 50 ∧ vp_in v2 (kN h (rf h v0 3)) ∧ (((kI h (rf h v0 3) (Int32.toNatClampNeg v2)) ≤ (kI h (rf h v0 3) (Int32.toNatClampNeg (kI h (rf h (rf h (rf h v4 1) (Int32.toNatClampNeg v5)) 1) (Int32.toNatClampNeg v2)))) → X G M Q 21 [(0, .ref v0), (1, .ref v1), (2, .int v2), (3, .int v3), (4, .ref v4), (5, .int (v5 + 1))] [] h) ∧ (¬ (kI h (rf h v0 3) (Int32.toNatClampNeg v2)) ≤ (kI h (rf h v0 3) (Int32.toNatClampNeg (kI h (rf h (rf h (rf h v4 1) (Int32.toNatClampNeg v5)) 1) (Int32.toNatClampNeg v2)))) → (sem G r_WP_edgeOf [.int v3, .int v5, .int v2] h (fun u2 h1 => ∃ x3 : Int32, u2 = some (.int x3) ∧ K (some (.int x3)) h1))))))))))))))))))))) : X G M Q 21 [(0, .ref v0), (1, .ref v1), (2, .int v2), (3, .int v3), (4, .ref v4), (5, .int v5)] [] h := by
  refine x_iload hM d_Wi_firstStep_21 5 rfl ?_
  refine x_aload hM d_Wi_firstStep_23 4 rfl ?_
  obtain ⟨c29, F⟩ := F
  refine x_geti hG hM ck_Ac 2 (Nat.le_of_ble_eq_true rfl) rfl rfl w_108 rfl d_Wi_firstStep_25 c29 ?_
  refine x_icmp_ge (tgt := 93) hM d_Wi_firstStep_28 (by decide) (fun q28 => ?_) (fun q28 => ?_)
  · replace F := F.1 q28
    refine x_iinc (v := (v3 + 1)) (lv2 := [(3, .int (v3 + 1)), (0, .ref v0), (1, .ref v1), (2, .int v2), (4, .ref v4), (5, .int v5)]) hM d_Wi_firstStep_93 (j := 3) rfl rfl (Nat.le_of_ble_eq_true rfl) rfl ?_
    refine x_goto (tgt := 2) hM d_Wi_firstStep_96 (by decide) ?_
    refine x_sub [1, 2, 3, 0] rfl ?_
    exact F
  · replace F := F.2 q28
    refine x_aload hM d_Wi_firstStep_31 4 rfl ?_
    obtain ⟨c26, F⟩ := F
    obtain ⟨c27, F⟩ := F
    refine x_getr hG hM ck_Ac 1 (Nat.le_of_ble_eq_true rfl) rfl rfl w_100 rfl d_Wi_firstStep_33 c26 c27 ?_
    refine x_iload hM d_Wi_firstStep_36 5 rfl ?_
    obtain ⟨c23, F⟩ := F
    obtain ⟨c24, F⟩ := F
    obtain ⟨c25, F⟩ := F
    refine x_aaload hG hM 54 rfl (Nat.le_of_ble_eq_true rfl) d_Wi_firstStep_38 c23 c24 c25 ?_
    obtain ⟨c21, F⟩ := F
    obtain ⟨c22, F⟩ := F
    refine x_getr hG hM ck_Ou 1 (Nat.le_of_ble_eq_true rfl) rfl rfl w_81 rfl d_Wi_firstStep_39 c21 c22 ?_
    refine x_iload_n hM d_Wi_firstStep_42 rfl 2 rfl ?_
    obtain ⟨c19, F⟩ := F
    obtain ⟨c20, F⟩ := F
    refine x_iaload hG hM d_Wi_firstStep_43 c19 c20 ?_
    refine x_istore (lv2 := [(6, .int (kI h (rf h (rf h (rf h v4 1) (Int32.toNatClampNeg v5)) 1) (Int32.toNatClampNeg v2))), (0, .ref v0), (1, .ref v1), (2, .int v2), (3, .int v3), (4, .ref v4), (5, .int v5)]) hM d_Wi_firstStep_44 (Nat.le_of_ble_eq_true rfl) rfl ?_
    refine x_iload hM d_Wi_firstStep_46 0 rfl ?_
    refine x_iconst (v := (-1)) hM d_Wi_firstStep_48 (by decide) ?_
    refine x_icmp_eq (tgt := 87) hM d_Wi_firstStep_49 (by decide) (fun q18 => ?_) (fun q18 => ?_)
    · replace F := F.1 q18
      refine x_iinc (v := (v5 + 1)) (lv2 := [(5, .int (v5 + 1)), (6, .int (kI h (rf h (rf h (rf h v4 1) (Int32.toNatClampNeg v5)) 1) (Int32.toNatClampNeg v2))), (0, .ref v0), (1, .ref v1), (2, .int v2), (3, .int v3), (4, .ref v4)]) hM d_Wi_firstStep_87 (j := 6) rfl rfl (Nat.le_of_ble_eq_true rfl) rfl ?_
      refine x_goto (tgt := 21) hM d_Wi_firstStep_90 (by decide) ?_
      refine x_sub [2, 3, 4, 5, 6, 0] rfl ?_
      exact F
    · replace F := F.2 q18
      refine x_aload_n hM d_Wi_firstStep_52 rfl 1 rfl ?_
      obtain ⟨c16, F⟩ := F
      obtain ⟨c17, F⟩ := F
      refine x_getr hG hM ck_Wi 3 (Nat.le_of_ble_eq_true rfl) rfl rfl w_289 rfl d_Wi_firstStep_53 c16 c17 ?_
      refine x_iload hM d_Wi_firstStep_56 0 rfl ?_
      obtain ⟨c14, F⟩ := F
      obtain ⟨c15, F⟩ := F
      refine x_iaload hG hM d_Wi_firstStep_58 c14 c15 ?_
      refine x_iconst (v := (-1)) hM d_Wi_firstStep_59 (by decide) ?_
      refine x_icmp_eq (tgt := 87) hM d_Wi_firstStep_60 (by decide) (fun q13 => ?_) (fun q13 => ?_)
      · replace F := F.1 q13
        refine x_iinc (v := (v5 + 1)) (lv2 := [(5, .int (v5 + 1)), (6, .int (kI h (rf h (rf h (rf h v4 1) (Int32.toNatClampNeg v5)) 1) (Int32.toNatClampNeg v2))), (0, .ref v0), (1, .ref v1), (2, .int v2), (3, .int v3), (4, .ref v4)]) hM d_Wi_firstStep_87 (j := 6) rfl rfl (Nat.le_of_ble_eq_true rfl) rfl ?_
        refine x_goto (tgt := 21) hM d_Wi_firstStep_90 (by decide) ?_
        refine x_sub [2, 3, 4, 5, 6, 0] rfl ?_
        exact F
      · replace F := F.2 q13
        refine x_aload_n hM d_Wi_firstStep_63 rfl 1 rfl ?_
        obtain ⟨c11, F⟩ := F
        obtain ⟨c12, F⟩ := F
        refine x_getr hG hM ck_Wi 3 (Nat.le_of_ble_eq_true rfl) rfl rfl w_289 rfl d_Wi_firstStep_64 c11 c12 ?_
        refine x_iload hM d_Wi_firstStep_67 0 rfl ?_
        obtain ⟨c9, F⟩ := F
        obtain ⟨c10, F⟩ := F
        refine x_iaload hG hM d_Wi_firstStep_69 c9 c10 ?_
        refine x_aload_n hM d_Wi_firstStep_70 rfl 1 rfl ?_
        obtain ⟨c7, F⟩ := F
        obtain ⟨c8, F⟩ := F
        refine x_getr hG hM ck_Wi 3 (Nat.le_of_ble_eq_true rfl) rfl rfl w_289 rfl d_Wi_firstStep_71 c7 c8 ?_
        refine x_iload_n hM d_Wi_firstStep_74 rfl 3 rfl ?_
        obtain ⟨c5, F⟩ := F
        obtain ⟨c6, F⟩ := F
        refine x_iaload hG hM d_Wi_firstStep_75 c5 c6 ?_
        refine x_icmp_ge (tgt := 87) hM d_Wi_firstStep_76 (by decide) (fun q4 => ?_) (fun q4 => ?_)
        · replace F := F.1 q4
          refine x_iinc (v := (v5 + 1)) (lv2 := [(5, .int (v5 + 1)), (6, .int (kI h (rf h (rf h (rf h v4 1) (Int32.toNatClampNeg v5)) 1) (Int32.toNatClampNeg v2))), (0, .ref v0), (1, .ref v1), (2, .int v2), (3, .int v3), (4, .ref v4)]) hM d_Wi_firstStep_87 (j := 6) rfl rfl (Nat.le_of_ble_eq_true rfl) rfl ?_
          refine x_goto (tgt := 21) hM d_Wi_firstStep_90 (by decide) ?_
          refine x_sub [2, 3, 4, 5, 6, 0] rfl ?_
          exact F
        · replace F := F.2 q4
          refine x_iload_n hM d_Wi_firstStep_79 rfl 4 rfl ?_
          refine x_iload hM d_Wi_firstStep_80 6 rfl ?_
          refine x_iload_n hM d_Wi_firstStep_82 rfl 3 rfl ?_
          refine x_callSN hG hM (r' := r_WP_edgeOf) [.int v3, .int v5, .int v2] rfl yk_WP_edgeOf ⟨Nat.le_of_ble_eq_true rfl, Nat.le_of_ble_eq_true rfl⟩ w_793 w_610 rfl rfl (Nat.le_of_ble_eq_true rfl) d_Wi_firstStep_83 (sem_mono F ?_)
          intro u2 h1 F
          obtain ⟨x3, rfl, F⟩ := F
          exact x_ireturn hM d_Wi_firstStep_86 rfl F
