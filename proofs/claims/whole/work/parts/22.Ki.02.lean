theorem d_Ki_regroup_0 : decode b_Ki_regroup 0 = .ok (.iconst 2, 1) := by decide +kernel
theorem d_Ki_regroup_1 : decode b_Ki_regroup 1 = .ok (.istore 4, 2) := by decide +kernel
theorem d_Ki_regroup_3 : decode b_Ki_regroup 3 = .ok (.iconst 0, 1) := by decide +kernel
theorem d_Ki_regroup_4 : decode b_Ki_regroup 4 = .ok (.istore 5, 2) := by decide +kernel
theorem d_Ki_regroup_6 : decode b_Ki_regroup 6 = .ok (.iload 5, 2) := by decide +kernel
theorem d_Ki_regroup_8 : decode b_Ki_regroup 8 = .ok (.bipush 12, 2) := by decide +kernel
theorem d_Ki_regroup_10 : decode b_Ki_regroup 10 = .ok (.if_icmp .ge 25, 3) := by decide +kernel
theorem d_Ki_regroup_13 : decode b_Ki_regroup 13 = .ok (.iload 4, 2) := by decide +kernel
theorem d_Ki_regroup_15 : decode b_Ki_regroup 15 = .ok (.iconst 2, 1) := by decide +kernel
theorem d_Ki_regroup_16 : decode b_Ki_regroup 16 = .ok (.iload_n 3, 1) := by decide +kernel
theorem d_Ki_regroup_17 : decode b_Ki_regroup 17 = .ok (.iload_n 2, 1) := by decide +kernel
theorem d_Ki_regroup_18 : decode b_Ki_regroup 18 = .ok (.isub, 1) := by decide +kernel
theorem d_Ki_regroup_19 : decode b_Ki_regroup 19 = .ok (.imul, 1) := by decide +kernel
theorem d_Ki_regroup_20 : decode b_Ki_regroup 20 = .ok (.if_icmp .ge 15, 3) := by decide +kernel
theorem d_Ki_regroup_23 : decode b_Ki_regroup 23 = .ok (.iload 4, 2) := by decide +kernel
theorem d_Ki_regroup_25 : decode b_Ki_regroup 25 = .ok (.iconst 2, 1) := by decide +kernel
theorem d_Ki_regroup_26 : decode b_Ki_regroup 26 = .ok (.imul, 1) := by decide +kernel
theorem d_Ki_regroup_27 : decode b_Ki_regroup 27 = .ok (.istore 4, 2) := by decide +kernel
theorem d_Ki_regroup_29 : decode b_Ki_regroup 29 = .ok (.iinc 5 1, 3) := by decide +kernel
theorem d_Ki_regroup_32 : decode b_Ki_regroup 32 = .ok (.goto (-26), 3) := by decide +kernel
theorem d_Ki_regroup_35 : decode b_Ki_regroup 35 = .ok (.aload_n 0, 1) := by decide +kernel
theorem d_Ki_regroup_36 : decode b_Ki_regroup 36 = .ok (.getfield 62, 3) := by decide +kernel
theorem d_Ki_regroup_39 : decode b_Ki_regroup 39 = .ok (.iconst 0, 1) := by decide +kernel
theorem d_Ki_regroup_40 : decode b_Ki_regroup 40 = .ok (.iload 4, 2) := by decide +kernel
theorem d_Ki_regroup_42 : decode b_Ki_regroup 42 = .ok (.iconst (-1), 1) := by decide +kernel
theorem d_Ki_regroup_43 : decode b_Ki_regroup 43 = .ok (.invokestatic 122, 3) := by decide +kernel
theorem d_Ki_regroup_46 : decode b_Ki_regroup 46 = .ok (.iconst 0, 1) := by decide +kernel
theorem d_Ki_regroup_47 : decode b_Ki_regroup 47 = .ok (.istore 5, 2) := by decide +kernel
theorem d_Ki_regroup_49 : decode b_Ki_regroup 49 = .ok (.iload_n 3, 1) := by decide +kernel
theorem d_Ki_regroup_50 : decode b_Ki_regroup 50 = .ok (.iconst 1, 1) := by decide +kernel
theorem d_Ki_regroup_51 : decode b_Ki_regroup 51 = .ok (.isub, 1) := by decide +kernel
theorem d_Ki_regroup_52 : decode b_Ki_regroup 52 = .ok (.istore 6, 2) := by decide +kernel
theorem d_Ki_regroup_54 : decode b_Ki_regroup 54 = .ok (.iload 6, 2) := by decide +kernel
theorem d_Ki_regroup_56 : decode b_Ki_regroup 56 = .ok (.iload_n 2, 1) := by decide +kernel
theorem d_Ki_regroup_57 : decode b_Ki_regroup 57 = .ok (.if_icmp .lt 97, 3) := by decide +kernel
theorem d_Ki_regroup_60 : decode b_Ki_regroup 60 = .ok (.aload_n 0, 1) := by decide +kernel
theorem d_Ki_regroup_61 : decode b_Ki_regroup 61 = .ok (.getfield 26, 3) := by decide +kernel
theorem d_Ki_regroup_64 : decode b_Ki_regroup 64 = .ok (.iload 6, 2) := by decide +kernel
theorem d_Ki_regroup_66 : decode b_Ki_regroup 66 = .ok (.iaload, 1) := by decide +kernel
theorem d_Ki_regroup_67 : decode b_Ki_regroup 67 = .ok (.istore 7, 2) := by decide +kernel
theorem d_Ki_regroup_69 : decode b_Ki_regroup 69 = .ok (.aload_n 0, 1) := by decide +kernel
theorem d_Ki_regroup_70 : decode b_Ki_regroup 70 = .ok (.getfield 50, 3) := by decide +kernel
theorem d_Ki_regroup_73 : decode b_Ki_regroup 73 = .ok (.iload 7, 2) := by decide +kernel
theorem d_Ki_regroup_75 : decode b_Ki_regroup 75 = .ok (.iaload, 1) := by decide +kernel
theorem d_Ki_regroup_76 : decode b_Ki_regroup 76 = .ok (.i2l, 1) := by decide +kernel
theorem d_Ki_regroup_77 : decode b_Ki_regroup 77 = .ok (.bipush 37, 2) := by decide +kernel
theorem d_Ki_regroup_79 : decode b_Ki_regroup 79 = .ok (.lshl, 1) := by decide +kernel
theorem d_Ki_regroup_80 : decode b_Ki_regroup 80 = .ok (.aload_n 0, 1) := by decide +kernel
theorem d_Ki_regroup_81 : decode b_Ki_regroup 81 = .ok (.aload_n 1, 1) := by decide +kernel
theorem d_Ki_regroup_82 : decode b_Ki_regroup 82 = .ok (.iload 7, 2) := by decide +kernel
theorem d_Ki_regroup_84 : decode b_Ki_regroup 84 = .ok (.invokevirtual 128, 3) := by decide +kernel
theorem d_Ki_regroup_87 : decode b_Ki_regroup 87 = .ok (.lor, 1) := by decide +kernel
theorem d_Ki_regroup_88 : decode b_Ki_regroup 88 = .ok (.lstore 8, 2) := by decide +kernel
theorem d_Ki_regroup_90 : decode b_Ki_regroup 90 = .ok (.aload_n 0, 1) := by decide +kernel
theorem d_Ki_regroup_91 : decode b_Ki_regroup 91 = .ok (.lload 8, 2) := by decide +kernel
theorem d_Ki_regroup_93 : decode b_Ki_regroup 93 = .ok (.iload 4, 2) := by decide +kernel
theorem d_Ki_regroup_95 : decode b_Ki_regroup 95 = .ok (.iconst 1, 1) := by decide +kernel
theorem d_Ki_regroup_96 : decode b_Ki_regroup 96 = .ok (.isub, 1) := by decide +kernel
theorem d_Ki_regroup_97 : decode b_Ki_regroup 97 = .ok (.invokevirtual 132, 3) := by decide +kernel
theorem d_Ki_regroup_100 : decode b_Ki_regroup 100 = .ok (.istore 10, 2) := by decide +kernel
theorem d_Ki_regroup_102 : decode b_Ki_regroup 102 = .ok (.aload_n 0, 1) := by decide +kernel
theorem d_Ki_regroup_103 : decode b_Ki_regroup 103 = .ok (.getfield 62, 3) := by decide +kernel
theorem d_Ki_regroup_106 : decode b_Ki_regroup 106 = .ok (.iload 10, 2) := by decide +kernel
theorem d_Ki_regroup_108 : decode b_Ki_regroup 108 = .ok (.iaload, 1) := by decide +kernel
theorem d_Ki_regroup_109 : decode b_Ki_regroup 109 = .ok (.iconst (-1), 1) := by decide +kernel
theorem d_Ki_regroup_110 : decode b_Ki_regroup 110 = .ok (.if_icmp .ne 24, 3) := by decide +kernel
theorem d_Ki_regroup_113 : decode b_Ki_regroup 113 = .ok (.aload_n 0, 1) := by decide +kernel
theorem d_Ki_regroup_114 : decode b_Ki_regroup 114 = .ok (.getfield 62, 3) := by decide +kernel
theorem d_Ki_regroup_117 : decode b_Ki_regroup 117 = .ok (.iload 10, 2) := by decide +kernel
theorem d_Ki_regroup_119 : decode b_Ki_regroup 119 = .ok (.iload 5, 2) := by decide +kernel
theorem d_Ki_regroup_121 : decode b_Ki_regroup 121 = .ok (.iastore, 1) := by decide +kernel
theorem d_Ki_regroup_122 : decode b_Ki_regroup 122 = .ok (.aload_n 0, 1) := by decide +kernel
theorem d_Ki_regroup_123 : decode b_Ki_regroup 123 = .ok (.getfield 65, 3) := by decide +kernel
theorem d_Ki_regroup_126 : decode b_Ki_regroup 126 = .ok (.iload 10, 2) := by decide +kernel
theorem d_Ki_regroup_128 : decode b_Ki_regroup 128 = .ok (.lload 8, 2) := by decide +kernel
theorem d_Ki_regroup_130 : decode b_Ki_regroup 130 = .ok (.lastore, 1) := by decide +kernel
theorem d_Ki_regroup_131 : decode b_Ki_regroup 131 = .ok (.iinc 5 1, 3) := by decide +kernel
theorem d_Ki_regroup_134 : decode b_Ki_regroup 134 = .ok (.aload_n 0, 1) := by decide +kernel
theorem d_Ki_regroup_135 : decode b_Ki_regroup 135 = .ok (.getfield 50, 3) := by decide +kernel
theorem d_Ki_regroup_138 : decode b_Ki_regroup 138 = .ok (.iload 7, 2) := by decide +kernel
theorem d_Ki_regroup_140 : decode b_Ki_regroup 140 = .ok (.aload_n 0, 1) := by decide +kernel
theorem d_Ki_regroup_141 : decode b_Ki_regroup 141 = .ok (.getfield 62, 3) := by decide +kernel
theorem d_Ki_regroup_144 : decode b_Ki_regroup 144 = .ok (.iload 10, 2) := by decide +kernel
theorem d_Ki_regroup_146 : decode b_Ki_regroup 146 = .ok (.iaload, 1) := by decide +kernel
theorem d_Ki_regroup_147 : decode b_Ki_regroup 147 = .ok (.iastore, 1) := by decide +kernel
theorem d_Ki_regroup_148 : decode b_Ki_regroup 148 = .ok (.iinc 6 (-1), 3) := by decide +kernel
theorem d_Ki_regroup_151 : decode b_Ki_regroup 151 = .ok (.goto (-97), 3) := by decide +kernel
theorem d_Ki_regroup_154 : decode b_Ki_regroup 154 = .ok (.iload 5, 2) := by decide +kernel
theorem d_Ki_regroup_156 : decode b_Ki_regroup 156 = .ok (.ireturn, 1) := by decide +kernel
set_option maxRecDepth 100000 in
set_option maxHeartbeats 4000000 in
theorem S_Ki_regroup_0 {G : Gc} {M : Mc} {Q : State → Prop} {K : Option Value → Hp → Prop} (hG : gok G) (hM : mok G M r_Ki_regroup Q K) (v0 : Nat) (v1 : Nat) (v2 : Int32) (v3 : Int32) (h : Hp) (F : X G M Q 6 [(0, .ref v0), (1, .ref v1), (2, .int v2), (3, .int v3), (4, .int 2), (5, .int 0)] [] h) : X G M Q 0 [(0, .ref v0), (1, .ref v1), (2, .int v2), (3, .int v3)] [] h := by
  refine x_iconst (v := 2) hM d_Ki_regroup_0 (by decide) ?_
  refine x_istore (lv2 := [(4, .int 2), (0, .ref v0), (1, .ref v1), (2, .int v2), (3, .int v3)]) hM d_Ki_regroup_1 (Nat.le_of_ble_eq_true rfl) rfl ?_
  refine x_iconst (v := 0) hM d_Ki_regroup_3 (by decide) ?_
  refine x_istore (lv2 := [(5, .int 0), (4, .int 2), (0, .ref v0), (1, .ref v1), (2, .int v2), (3, .int v3)]) hM d_Ki_regroup_4 (Nat.le_of_ble_eq_true rfl) rfl ?_
  refine x_sub [2, 3, 4, 5, 1, 0] rfl ?_
  exact F
set_option maxRecDepth 100000 in
set_option maxHeartbeats 4000000 in
theorem S_Ki_regroup_6 {G : Gc} {M : Mc} {Q : State → Prop} {K : Option Value → Hp → Prop} (hG : gok G) (hM : mok G M r_Ki_regroup Q K) (v0 : Nat) (v1 : Nat) (v2 : Int32) (v3 : Int32) (v4 : Int32) (v5 : Int32) (h : Hp) (F : (12 ≤ v5 → (kT h v0 = 10 ∧ kR h v0 16 = some (rf h v0 16) ∧ (sem G r_Ar_fill [.ref (rf h v0 16), .int 0, .int v4, .int (-1)] h (fun u2 h1 => u2 = none ∧ X G M Q 54 [(0, .ref v0), (1, .ref v1), (2, .int v2), (4, .int v4), (5, .int 0), (6, .int (v3 - 1))] [] h1)))) ∧ (¬ 12 ≤ v5 → (((2 * (v3 - v2)) ≤ v4 → (kT h v0 = 10 ∧ kR h v0 16 = some (rf h v0 16) ∧ (sem G r_Ar_fill [.ref (rf h v0 16), .int 0, .int v4, .int (-1)] h (fun u6 h5 => u6 = none ∧ X G M Q 54 [(0, .ref v0), (1, .ref v1), (2, .int v2), (4, .int v4), (5, .int 0), (6, .int (v3 - 1))] [] h5)))) ∧ (¬ (2 * (v3 - v2)) ≤ v4 → X G M Q 6 [(0, .ref v0), (1, .ref v1), (2, .int v2), (3, .int v3), (4, .int (v4 * 2)), (5, .int (v5 + 1))] [] h)))) : X G M Q 6 [(0, .ref v0), (1, .ref v1), (2, .int v2), (3, .int v3), (4, .int v4), (5, .int v5)] [] h := by
  refine x_iload hM d_Ki_regroup_6 5 rfl ?_
  refine x_bipush (v := 12) hM d_Ki_regroup_8 (by decide) ?_
  refine x_icmp_ge (tgt := 35) hM d_Ki_regroup_10 (by decide) (fun q10 => ?_) (fun q10 => ?_)
  · replace F := F.1 q10
    refine x_aload_n hM d_Ki_regroup_35 rfl 0 rfl ?_
    obtain ⟨c3, F⟩ := F
    obtain ⟨c4, F⟩ := F
    refine x_getr hG hM ck_Ki 16 (Nat.le_of_ble_eq_true rfl) rfl rfl w_341 rfl d_Ki_regroup_36 c3 c4 ?_
    refine x_iconst (v := 0) hM d_Ki_regroup_39 (by decide) ?_
    refine x_iload hM d_Ki_regroup_40 4 rfl ?_
    refine x_iconst (v := (-1)) hM d_Ki_regroup_42 (by decide) ?_
    refine x_callS hG hM (r' := r_Ar_fill) [.ref (rf h v0 16), .int 0, .int v4, .int (-1)] rfl yk_Ar_fill ⟨Nat.le_of_ble_eq_true rfl, Nat.le_of_ble_eq_true rfl⟩ w_727 w_604 rfl rfl (Nat.le_of_ble_eq_true rfl) d_Ki_regroup_43 (sem_mono F ?_)
    intro u2 h1 F
    obtain ⟨rfl, F⟩ := F
    refine x_iconst (v := 0) hM d_Ki_regroup_46 (by decide) ?_
    refine x_istore (lv2 := [(5, .int 0), (0, .ref v0), (1, .ref v1), (2, .int v2), (3, .int v3), (4, .int v4)]) hM d_Ki_regroup_47 (Nat.le_of_ble_eq_true rfl) rfl ?_
    refine x_iload_n hM d_Ki_regroup_49 rfl 4 rfl ?_
    refine x_iconst (v := 1) hM d_Ki_regroup_50 (by decide) ?_
    refine x_isub hM d_Ki_regroup_51 ?_
    refine x_istore (lv2 := [(6, .int (v3 - 1)), (5, .int 0), (0, .ref v0), (1, .ref v1), (2, .int v2), (3, .int v3), (4, .int v4)]) hM d_Ki_regroup_52 (Nat.le_of_ble_eq_true rfl) rfl ?_
    refine x_sub [2, 3, 4, 6, 1, 0] rfl ?_
    exact F
  · replace F := F.2 q10
    refine x_iload hM d_Ki_regroup_13 4 rfl ?_
    refine x_iconst (v := 2) hM d_Ki_regroup_15 (by decide) ?_
    refine x_iload_n hM d_Ki_regroup_16 rfl 3 rfl ?_
    refine x_iload_n hM d_Ki_regroup_17 rfl 2 rfl ?_
    refine x_isub hM d_Ki_regroup_18 ?_
    refine x_imul hM d_Ki_regroup_19 ?_
    refine x_icmp_ge (tgt := 35) hM d_Ki_regroup_20 (by decide) (fun q9 => ?_) (fun q9 => ?_)
    · replace F := F.1 q9
      refine x_aload_n hM d_Ki_regroup_35 rfl 0 rfl ?_
      obtain ⟨c7, F⟩ := F
      obtain ⟨c8, F⟩ := F
      refine x_getr hG hM ck_Ki 16 (Nat.le_of_ble_eq_true rfl) rfl rfl w_341 rfl d_Ki_regroup_36 c7 c8 ?_
      refine x_iconst (v := 0) hM d_Ki_regroup_39 (by decide) ?_
      refine x_iload hM d_Ki_regroup_40 4 rfl ?_
      refine x_iconst (v := (-1)) hM d_Ki_regroup_42 (by decide) ?_
      refine x_callS hG hM (r' := r_Ar_fill) [.ref (rf h v0 16), .int 0, .int v4, .int (-1)] rfl yk_Ar_fill ⟨Nat.le_of_ble_eq_true rfl, Nat.le_of_ble_eq_true rfl⟩ w_727 w_604 rfl rfl (Nat.le_of_ble_eq_true rfl) d_Ki_regroup_43 (sem_mono F ?_)
      intro u6 h5 F
      obtain ⟨rfl, F⟩ := F
      refine x_iconst (v := 0) hM d_Ki_regroup_46 (by decide) ?_
      refine x_istore (lv2 := [(5, .int 0), (0, .ref v0), (1, .ref v1), (2, .int v2), (3, .int v3), (4, .int v4)]) hM d_Ki_regroup_47 (Nat.le_of_ble_eq_true rfl) rfl ?_
      refine x_iload_n hM d_Ki_regroup_49 rfl 4 rfl ?_
      refine x_iconst (v := 1) hM d_Ki_regroup_50 (by decide) ?_
      refine x_isub hM d_Ki_regroup_51 ?_
      refine x_istore (lv2 := [(6, .int (v3 - 1)), (5, .int 0), (0, .ref v0), (1, .ref v1), (2, .int v2), (3, .int v3), (4, .int v4)]) hM d_Ki_regroup_52 (Nat.le_of_ble_eq_true rfl) rfl ?_
      refine x_sub [2, 3, 4, 6, 1, 0] rfl ?_
      exact F
    · replace F := F.2 q9
      refine x_iload hM d_Ki_regroup_23 4 rfl ?_
      refine x_iconst (v := 2) hM d_Ki_regroup_25 (by decide) ?_
      refine x_imul hM d_Ki_regroup_26 ?_
      refine x_istore (lv2 := [(4, .int (v4 * 2)), (0, .ref v0), (1, .ref v1), (2, .int v2), (3, .int v3), (5, .int v5)]) hM d_Ki_regroup_27 (Nat.le_of_ble_eq_true rfl) rfl ?_
      refine x_iinc (v := (v5 + 1)) (lv2 := [(5, .int (v5 + 1)), (4, .int (v4 * 2)), (0, .ref v0), (1, .ref v1), (2, .int v2), (3, .int v3)]) hM d_Ki_regroup_29 (j := 5) rfl rfl (Nat.le_of_ble_eq_true rfl) rfl ?_
      refine x_goto (tgt := 6) hM d_Ki_regroup_32 (by decide) ?_
      refine x_sub [2, 3, 4, 5, 1, 0] rfl ?_
      exact F
set_option maxRecDepth 100000 in
set_option maxHeartbeats 4000000 in
theorem S_Ki_regroup_54 {G : Gc} {M : Mc} {Q : State → Prop} {K : Option Value → Hp → Prop} (hG : gok G) (hM : mok G M r_Ki_regroup Q K) (v0 : Nat) (v1 : Nat) (v2 : Int32) (v4 : Int32) (v5 : Int32) (v6 : Int32) (h : Hp) (F : (v6 < v2 → K (some (.int v5)) h) ∧ (¬ v6 < v2 → (kT h v0 = 10 ∧ kR h v0 4 = some (rf h v0 4) ∧ (kT h (rf h v0 4) = 50 ∧ vp_in v6 (kN h (rf h v0 4)) ∧ (kT h v0 = 10 ∧ kR h v0 12 = some (rf h v0 12) ∧ (kT h (rf h v0 12) = 50 ∧ vp_in (kI h (rf h v0 4) (Int32.toNatClampNeg v6)) (kN h (rf h v0 12)) ∧ (kT h v0 = 10 ∧ sem G r_Ki_kindsBehind [.ref v0, .ref v1, .int (kI h (rf h v0 4) (Int32.toNatClampNeg v6))] h (fun u2 h1 => ∃ x3 : Int64, u2 = some (.long x3) ∧ (kT h1 v0 = 10 ∧ sem G r_Ki_slotOf [.ref v0, .long (((Int32.toInt64 (kI h (rf h v0 12) (Int32.toNatClampNeg (kI h (rf h v0 4) (Int32.toNatClampNeg v6))))) <<< (Int32.toInt64 37 &&& 63)) ||| x3), .int (v4 - 1)] h1 (fun u5 h4 => ∃ x6 : Int32, u5 = some (.int x6) ∧ (kT h4 v0 = 10 ∧ kR h4 v0 16 = some (rf h4 v0 16) ∧ (kT h4 (rf h4 v0 16) = 50 ∧ vp_in x6 (kN h4 (rf h4 v0 16)) ∧ (((kI h4 (rf h4 v0 16) (Int32.toNatClampNeg x6)) = (-1) → (kT h4 v0 = 10 ∧ kR h4 v0 16 = some (rf h4 v0 16) ∧ (kT h4 (rf h4 v0 16) = 50 ∧ vp_in x6 (kN h4 (rf h4 v0 16)) ∧ (∀ h16 : Hp, h16 = wI h4 (rf h4 v0 16) (Int32.toNatClampNeg x6) v5 → (kT h16 v0 = 10 ∧ kR h16 v0 17 = some (rf h16 v0 17) ∧ (kT h16 (rf h16 v0 17) = 52 ∧ vp_in x6 (kN h16 (rf h16 v0 17)) ∧ (∀ h17 : Hp, h17 = wL h16 (rf h16 v0 17) (Int32.toNatClampNeg x6) (((Int32.toInt64 (kI h (rf h v0 12) (Int32.toNatClampNeg (kI h (rf h v0 4) (Int32.toNatClampNeg v6))))) <<< (Int32.toInt64 37 &&& 63)) ||| x3) → (kT h17 v0 = 10 ∧ kR h17 v0 12 = some (rf h17 v0 12) ∧ (kT h17 v0 = 10 ∧ kR h17 v0 16 = some (rf h17 v0 16) ∧ (kT h17 (rf h17 v0 16) = 50 ∧ vp_in x6 (kN h17 (rf h17 v0 16)) ∧ (kT h17 (rf h17 v0 12) = 50 ∧ vp_in (kI h (rf h v0 4) (Int32.toNatClampNeg v6)) (kN h17 (rf h17 v0 12)) ∧ (∀ h18 : Hp, h18 = wI h17 (rf h17 v0 12) (Int32.toNatClampNeg (kI h (rf h v0 4) (Int32.toNatClampNeg v6))) (kI h17 (rf h17 v0 16) (Int32.toNatClampNeg x6)) → X G M Q 54 [(0, .ref v0), (1, .ref v1), (2, .int v2), (4, .int v4), (5, .int (v5 + 1)), (6, .int (v6 + (-1)))] [] h18)))))))))))) ∧ (¬ (kI h4 (rf h4 v0 16) (Int32.toNatClampNeg x6)) = (-1) → (kT h4 v0 = 10 ∧ kR h4 v0 12 = some (rf h4 v0 12) ∧ (kT h4 v0 = 10 ∧ kR h4 v0 16 = some (rf h4 v0 16) ∧ (kT h4 (rf h4 v0 16) = 50 ∧ vp_in x6 (kN h4 (rf h4 v0 16)) ∧ (kT h4 (rf h4 v0 12) = 50 ∧ vp_in (kI h (rf h v0 4) (Int32.toNatClampNeg v6)) (kN h4 (rf h4 v0 12)) ∧ (∀ h7 : Hp, h7 = wI h4 (rf h4 v0 12) (Int32.toNatClampNeg (kI h (rf h v0 4) (Int32.toNatClampNeg v6))) (kI h4 (rf h4 v0 16) (Int32.toNatClampNeg x6)) → X G M Q 54 [(0, .ref v0), (1, .ref v1), (2, .int v2), (4, .int v4), (5, .int v5), (6, .int (v6 + (-1)))] [] h7))))))))))))))))))) : X G M Q 54 [(0, .ref v0), (1, .ref v1), (2, .int v2), (4, .int v4), (5, .int v5), (6, .int v6)] [] h := by
  refine x_iload hM d_Ki_regroup_54 5 rfl ?_
  refine x_iload_n hM d_Ki_regroup_56 rfl 2 rfl ?_
  refine x_icmp_lt (tgt := 154) hM d_Ki_regroup_57 (by decide) (fun q50 => ?_) (fun q50 => ?_)
  · replace F := F.1 q50
    refine x_iload hM d_Ki_regroup_154 4 rfl ?_
    exact x_ireturn hM d_Ki_regroup_156 rfl F
  · replace F := F.2 q50
    refine x_aload_n hM d_Ki_regroup_60 rfl 0 rfl ?_
    obtain ⟨c48, F⟩ := F
    obtain ⟨c49, F⟩ := F
    refine x_getr hG hM ck_Ki 4 (Nat.le_of_ble_eq_true rfl) rfl rfl w_329 rfl d_Ki_regroup_61 c48 c49 ?_
    refine x_iload hM d_Ki_regroup_64 5 rfl ?_
    obtain ⟨c46, F⟩ := F
    obtain ⟨c47, F⟩ := F
    refine x_iaload hG hM d_Ki_regroup_66 c46 c47 ?_
    refine x_istore (lv2 := [(7, .int (kI h (rf h v0 4) (Int32.toNatClampNeg v6))), (0, .ref v0), (1, .ref v1), (2, .int v2), (4, .int v4), (5, .int v5), (6, .int v6)]) hM d_Ki_regroup_67 (Nat.le_of_ble_eq_true rfl) rfl ?_
    refine x_aload_n hM d_Ki_regroup_69 rfl 1 rfl ?_
    obtain ⟨c44, F⟩ := F
    obtain ⟨c45, F⟩ := F
    refine x_getr hG hM ck_Ki 12 (Nat.le_of_ble_eq_true rfl) rfl rfl w_337 rfl d_Ki_regroup_70 c44 c45 ?_
    refine x_iload hM d_Ki_regroup_73 0 rfl ?_
    obtain ⟨c42, F⟩ := F
    obtain ⟨c43, F⟩ := F
    refine x_iaload hG hM d_Ki_regroup_75 c42 c43 ?_
    refine x_i2l hM d_Ki_regroup_76 ?_
    refine x_bipush (v := 37) hM d_Ki_regroup_77 (by decide) ?_
    refine x_lshl hM d_Ki_regroup_79 ?_
    refine x_aload_n hM d_Ki_regroup_80 rfl 1 rfl ?_
    refine x_aload_n hM d_Ki_regroup_81 rfl 2 rfl ?_
    refine x_iload hM d_Ki_regroup_82 0 rfl ?_
    obtain ⟨c41, F⟩ := F
    refine x_callV hG hM (r' := r_Ki_kindsBehind) (ci := 9) [.ref v1, .int (kI h (rf h v0 4) (Int32.toNatClampNeg v6))] rfl rfl (Nat.le_of_ble_eq_true rfl) yk_Ki_kindsBehind ⟨Nat.le_of_ble_eq_true rfl, Nat.le_of_ble_eq_true rfl⟩ w_728 w_730 ws_Ki_kindsBehind rfl rfl (Nat.le_of_ble_eq_true rfl) d_Ki_regroup_84 c41 (sem_mono F ?_)
    intro u2 h1 F
    obtain ⟨x3, rfl, F⟩ := F
    refine x_lor hM d_Ki_regroup_87 ?_
    refine x_lstore (lv2 := [(8, .long (((Int32.toInt64 (kI h (rf h v0 12) (Int32.toNatClampNeg (kI h (rf h v0 4) (Int32.toNatClampNeg v6))))) <<< (Int32.toInt64 37 &&& 63)) ||| x3)), (7, .int (kI h (rf h v0 4) (Int32.toNatClampNeg v6))), (0, .ref v0), (1, .ref v1), (2, .int v2), (4, .int v4), (5, .int v5), (6, .int v6)]) hM d_Ki_regroup_88 (Nat.le_of_ble_eq_true rfl) rfl ?_
    refine x_aload_n hM d_Ki_regroup_90 rfl 2 rfl ?_
    refine x_lload hM d_Ki_regroup_91 0 rfl ?_
    refine x_iload hM d_Ki_regroup_93 5 rfl ?_
    refine x_iconst (v := 1) hM d_Ki_regroup_95 (by decide) ?_
    refine x_isub hM d_Ki_regroup_96 ?_
    obtain ⟨c40, F⟩ := F
    refine x_callV hG hM (r' := r_Ki_slotOf) (ci := 9) [.long (((Int32.toInt64 (kI h (rf h v0 12) (Int32.toNatClampNeg (kI h (rf h v0 4) (Int32.toNatClampNeg v6))))) <<< (Int32.toInt64 37 &&& 63)) ||| x3), .int (v4 - 1)] rfl rfl (Nat.le_of_ble_eq_true rfl) yk_Ki_slotOf ⟨Nat.le_of_ble_eq_true rfl, Nat.le_of_ble_eq_true rfl⟩ w_736 w_738 ws_Ki_slotOf rfl rfl (Nat.le_of_ble_eq_true rfl) d_Ki_regroup_97 c40 (sem_mono F ?_)
    intro u5 h4 F
    obtain ⟨x6, rfl, F⟩ := F
    refine x_istore (lv2 := [(10, .int x6), (8, .long (((Int32.toInt64 (kI h (rf h v0 12) (Int32.toNatClampNeg (kI h (rf h v0 4) (Int32.toNatClampNeg v6))))) <<< (Int32.toInt64 37 &&& 63)) ||| x3)), (7, .int (kI h (rf h v0 4) (Int32.toNatClampNeg v6))), (0, .ref v0), (1, .ref v1), (2, .int v2), (4, .int v4), (5, .int v5), (6, .int v6)]) hM d_Ki_regroup_100 (Nat.le_of_ble_eq_true rfl) rfl ?_
    refine x_aload_n hM d_Ki_regroup_102 rfl 3 rfl ?_
    obtain ⟨c38, F⟩ := F
    obtain ⟨c39, F⟩ := F
    refine x_getr hG hM ck_Ki 16 (Nat.le_of_ble_eq_true rfl) rfl rfl w_341 rfl d_Ki_regroup_103 c38 c39 ?_
    refine x_iload hM d_Ki_regroup_106 0 rfl ?_
    obtain ⟨c36, F⟩ := F
    obtain ⟨c37, F⟩ := F
    refine x_iaload hG hM d_Ki_regroup_108 c36 c37 ?_
    refine x_iconst (v := (-1)) hM d_Ki_regroup_109 (by decide) ?_
    refine x_icmp_ne (tgt := 134) hM d_Ki_regroup_110 (by decide) (fun q35 => ?_) (fun q35 => ?_)
    · replace F := F.2 q35
      refine x_aload_n hM d_Ki_regroup_134 rfl 3 rfl ?_
      obtain ⟨c14, F⟩ := F
      obtain ⟨c15, F⟩ := F
      refine x_getr hG hM ck_Ki 12 (Nat.le_of_ble_eq_true rfl) rfl rfl w_337 rfl d_Ki_regroup_135 c14 c15 ?_
      refine x_iload hM d_Ki_regroup_138 2 rfl ?_
      refine x_aload_n hM d_Ki_regroup_140 rfl 3 rfl ?_
      obtain ⟨c12, F⟩ := F
      obtain ⟨c13, F⟩ := F
      refine x_getr hG hM ck_Ki 16 (Nat.le_of_ble_eq_true rfl) rfl rfl w_341 rfl d_Ki_regroup_141 c12 c13 ?_
      refine x_iload hM d_Ki_regroup_144 0 rfl ?_
      obtain ⟨c10, F⟩ := F
      obtain ⟨c11, F⟩ := F
      refine x_iaload hG hM d_Ki_regroup_146 c10 c11 ?_
      obtain ⟨c8, F⟩ := F
      obtain ⟨c9, F⟩ := F
      obtain ⟨h7, eh7⟩ : ∃ z : Hp, z = wI h4 (rf h4 v0 12) (Int32.toNatClampNeg (kI h (rf h v0 4) (Int32.toNatClampNeg v6))) (kI h4 (rf h4 v0 16) (Int32.toNatClampNeg x6)) := ⟨_, rfl⟩
      replace F := F h7 eh7
      refine x_iastore hG hM d_Ki_regroup_147 c8 c9 ?_
      rw [← eh7]
      clear eh7
      refine x_iinc (v := (v6 + (-1))) (lv2 := [(6, .int (v6 + (-1))), (10, .int x6), (8, .long (((Int32.toInt64 (kI h (rf h v0 12) (Int32.toNatClampNeg (kI h (rf h v0 4) (Int32.toNatClampNeg v6))))) <<< (Int32.toInt64 37 &&& 63)) ||| x3)), (7, .int (kI h (rf h v0 4) (Int32.toNatClampNeg v6))), (0, .ref v0), (1, .ref v1), (2, .int v2), (4, .int v4), (5, .int v5)]) hM d_Ki_regroup_148 (j := 8) rfl rfl (Nat.le_of_ble_eq_true rfl) rfl ?_
      refine x_goto (tgt := 54) hM d_Ki_regroup_151 (by decide) ?_
      refine x_sub [4, 5, 6, 7, 8, 0] rfl ?_
      exact F
    · replace F := F.1 q35
      refine x_aload_n hM d_Ki_regroup_113 rfl 3 rfl ?_
      obtain ⟨c33, F⟩ := F
      obtain ⟨c34, F⟩ := F
      refine x_getr hG hM ck_Ki 16 (Nat.le_of_ble_eq_true rfl) rfl rfl w_341 rfl d_Ki_regroup_114 c33 c34 ?_
      refine x_iload hM d_Ki_regroup_117 0 rfl ?_
      refine x_iload hM d_Ki_regroup_119 7 rfl ?_
      obtain ⟨c31, F⟩ := F
      obtain ⟨c32, F⟩ := F
      obtain ⟨h16, eh16⟩ : ∃ z : Hp, z = wI h4 (rf h4 v0 16) (Int32.toNatClampNeg x6) v5 := ⟨_, rfl⟩
      replace F := F h16 eh16
      refine x_iastore hG hM d_Ki_regroup_121 c31 c32 ?_
      rw [← eh16]
      clear eh16
      refine x_aload_n hM d_Ki_regroup_122 rfl 3 rfl ?_
      obtain ⟨c29, F⟩ := F
      obtain ⟨c30, F⟩ := F
      refine x_getr hG hM ck_Ki 17 (Nat.le_of_ble_eq_true rfl) rfl rfl w_342 rfl d_Ki_regroup_123 c29 c30 ?_
      refine x_iload hM d_Ki_regroup_126 0 rfl ?_
      refine x_lload hM d_Ki_regroup_128 1 rfl ?_
      obtain ⟨c27, F⟩ := F
      obtain ⟨c28, F⟩ := F
      obtain ⟨h17, eh17⟩ : ∃ z : Hp, z = wL h16 (rf h16 v0 17) (Int32.toNatClampNeg x6) (((Int32.toInt64 (kI h (rf h v0 12) (Int32.toNatClampNeg (kI h (rf h v0 4) (Int32.toNatClampNeg v6))))) <<< (Int32.toInt64 37 &&& 63)) ||| x3) := ⟨_, rfl⟩
      replace F := F h17 eh17
      refine x_lastore hG hM d_Ki_regroup_130 c27 c28 ?_
      rw [← eh17]
      clear eh17
      refine x_iinc (v := (v5 + 1)) (lv2 := [(5, .int (v5 + 1)), (10, .int x6), (8, .long (((Int32.toInt64 (kI h (rf h v0 12) (Int32.toNatClampNeg (kI h (rf h v0 4) (Int32.toNatClampNeg v6))))) <<< (Int32.toInt64 37 &&& 63)) ||| x3)), (7, .int (kI h (rf h v0 4) (Int32.toNatClampNeg v6))), (0, .ref v0), (1, .ref v1), (2, .int v2), (4, .int v4), (6, .int v6)]) hM d_Ki_regroup_131 (j := 7) rfl rfl (Nat.le_of_ble_eq_true rfl) rfl ?_
      refine x_aload_n hM d_Ki_regroup_134 rfl 4 rfl ?_
      obtain ⟨c25, F⟩ := F
      obtain ⟨c26, F⟩ := F
      refine x_getr hG hM ck_Ki 12 (Nat.le_of_ble_eq_true rfl) rfl rfl w_337 rfl d_Ki_regroup_135 c25 c26 ?_
      refine x_iload hM d_Ki_regroup_138 3 rfl ?_
      refine x_aload_n hM d_Ki_regroup_140 rfl 4 rfl ?_
      obtain ⟨c23, F⟩ := F
      obtain ⟨c24, F⟩ := F
      refine x_getr hG hM ck_Ki 16 (Nat.le_of_ble_eq_true rfl) rfl rfl w_341 rfl d_Ki_regroup_141 c23 c24 ?_
      refine x_iload hM d_Ki_regroup_144 1 rfl ?_
      obtain ⟨c21, F⟩ := F
      obtain ⟨c22, F⟩ := F
      refine x_iaload hG hM d_Ki_regroup_146 c21 c22 ?_
      obtain ⟨c19, F⟩ := F
      obtain ⟨c20, F⟩ := F
      obtain ⟨h18, eh18⟩ : ∃ z : Hp, z = wI h17 (rf h17 v0 12) (Int32.toNatClampNeg (kI h (rf h v0 4) (Int32.toNatClampNeg v6))) (kI h17 (rf h17 v0 16) (Int32.toNatClampNeg x6)) := ⟨_, rfl⟩
      replace F := F h18 eh18
      refine x_iastore hG hM d_Ki_regroup_147 c19 c20 ?_
      rw [← eh18]
      clear eh18
      refine x_iinc (v := (v6 + (-1))) (lv2 := [(6, .int (v6 + (-1))), (5, .int (v5 + 1)), (10, .int x6), (8, .long (((Int32.toInt64 (kI h (rf h v0 12) (Int32.toNatClampNeg (kI h (rf h v0 4) (Int32.toNatClampNeg v6))))) <<< (Int32.toInt64 37 &&& 63)) ||| x3)), (7, .int (kI h (rf h v0 4) (Int32.toNatClampNeg v6))), (0, .ref v0), (1, .ref v1), (2, .int v2), (4, .int v4)]) hM d_Ki_regroup_148 (j := 8) rfl rfl (Nat.le_of_ble_eq_true rfl) rfl ?_
      refine x_goto (tgt := 54) hM d_Ki_regroup_151 (by decide) ?_
      refine x_sub [5, 6, 7, 8, 1, 0] rfl ?_
      exact F
theorem d_Ki_kindsBehind_0 : decode b_Ki_kindsBehind 0 = .ok (.aload_n 1, 1) := by decide +kernel
theorem d_Ki_kindsBehind_1 : decode b_Ki_kindsBehind 1 = .ok (.iload_n 2, 1) := by decide +kernel
theorem d_Ki_kindsBehind_2 : decode b_Ki_kindsBehind 2 = .ok (.invokevirtual 138, 3) := by decide +kernel
theorem d_Ki_kindsBehind_5 : decode b_Ki_kindsBehind 5 = .ok (.ifCond .ne 5, 3) := by decide +kernel
theorem d_Ki_kindsBehind_8 : decode b_Ki_kindsBehind 8 = .ok (.lconst 0, 1) := by decide +kernel
theorem d_Ki_kindsBehind_9 : decode b_Ki_kindsBehind 9 = .ok (.lreturn, 1) := by decide +kernel
theorem d_Ki_kindsBehind_10 : decode b_Ki_kindsBehind 10 = .ok (.aload_n 0, 1) := by decide +kernel
theorem d_Ki_kindsBehind_11 : decode b_Ki_kindsBehind 11 = .ok (.getfield 19, 3) := by decide +kernel
theorem d_Ki_kindsBehind_14 : decode b_Ki_kindsBehind 14 = .ok (.aload_n 1, 1) := by decide +kernel
theorem d_Ki_kindsBehind_15 : decode b_Ki_kindsBehind 15 = .ok (.getfield 144, 3) := by decide +kernel
theorem d_Ki_kindsBehind_18 : decode b_Ki_kindsBehind 18 = .ok (.iconst 0, 1) := by decide +kernel
theorem d_Ki_kindsBehind_19 : decode b_Ki_kindsBehind 19 = .ok (.aaload, 1) := by decide +kernel
theorem d_Ki_kindsBehind_20 : decode b_Ki_kindsBehind 20 = .ok (.getfield 148, 3) := by decide +kernel
theorem d_Ki_kindsBehind_23 : decode b_Ki_kindsBehind 23 = .ok (.iload_n 2, 1) := by decide +kernel
theorem d_Ki_kindsBehind_24 : decode b_Ki_kindsBehind 24 = .ok (.iaload, 1) := by decide +kernel
theorem d_Ki_kindsBehind_25 : decode b_Ki_kindsBehind 25 = .ok (.iaload, 1) := by decide +kernel
theorem d_Ki_kindsBehind_26 : decode b_Ki_kindsBehind 26 = .ok (.istore_n 3, 1) := by decide +kernel
theorem d_Ki_kindsBehind_27 : decode b_Ki_kindsBehind 27 = .ok (.aload_n 1, 1) := by decide +kernel
theorem d_Ki_kindsBehind_28 : decode b_Ki_kindsBehind 28 = .ok (.getfield 153, 3) := by decide +kernel
theorem d_Ki_kindsBehind_31 : decode b_Ki_kindsBehind 31 = .ok (.iconst 1, 1) := by decide +kernel
theorem d_Ki_kindsBehind_32 : decode b_Ki_kindsBehind 32 = .ok (.if_icmp .le 22, 3) := by decide +kernel
theorem d_Ki_kindsBehind_35 : decode b_Ki_kindsBehind 35 = .ok (.aload_n 0, 1) := by decide +kernel
theorem d_Ki_kindsBehind_36 : decode b_Ki_kindsBehind 36 = .ok (.getfield 19, 3) := by decide +kernel
theorem d_Ki_kindsBehind_39 : decode b_Ki_kindsBehind 39 = .ok (.aload_n 1, 1) := by decide +kernel
theorem d_Ki_kindsBehind_40 : decode b_Ki_kindsBehind 40 = .ok (.getfield 144, 3) := by decide +kernel
theorem d_Ki_kindsBehind_43 : decode b_Ki_kindsBehind 43 = .ok (.iconst 1, 1) := by decide +kernel
theorem d_Ki_kindsBehind_44 : decode b_Ki_kindsBehind 44 = .ok (.aaload, 1) := by decide +kernel
theorem d_Ki_kindsBehind_45 : decode b_Ki_kindsBehind 45 = .ok (.getfield 148, 3) := by decide +kernel
theorem d_Ki_kindsBehind_48 : decode b_Ki_kindsBehind 48 = .ok (.iload_n 2, 1) := by decide +kernel
theorem d_Ki_kindsBehind_49 : decode b_Ki_kindsBehind 49 = .ok (.iaload, 1) := by decide +kernel
theorem d_Ki_kindsBehind_50 : decode b_Ki_kindsBehind 50 = .ok (.iaload, 1) := by decide +kernel
theorem d_Ki_kindsBehind_51 : decode b_Ki_kindsBehind 51 = .ok (.goto 4, 3) := by decide +kernel
theorem d_Ki_kindsBehind_54 : decode b_Ki_kindsBehind 54 = .ok (.iload_n 3, 1) := by decide +kernel
theorem d_Ki_kindsBehind_55 : decode b_Ki_kindsBehind 55 = .ok (.istore 4, 2) := by decide +kernel
theorem d_Ki_kindsBehind_57 : decode b_Ki_kindsBehind 57 = .ok (.aload_n 1, 1) := by decide +kernel
theorem d_Ki_kindsBehind_58 : decode b_Ki_kindsBehind 58 = .ok (.getfield 153, 3) := by decide +kernel
theorem d_Ki_kindsBehind_61 : decode b_Ki_kindsBehind 61 = .ok (.iconst 2, 1) := by decide +kernel
theorem d_Ki_kindsBehind_62 : decode b_Ki_kindsBehind 62 = .ok (.if_icmp .le 22, 3) := by decide +kernel
theorem d_Ki_kindsBehind_65 : decode b_Ki_kindsBehind 65 = .ok (.aload_n 0, 1) := by decide +kernel
theorem d_Ki_kindsBehind_66 : decode b_Ki_kindsBehind 66 = .ok (.getfield 19, 3) := by decide +kernel
theorem d_Ki_kindsBehind_69 : decode b_Ki_kindsBehind 69 = .ok (.aload_n 1, 1) := by decide +kernel
theorem d_Ki_kindsBehind_70 : decode b_Ki_kindsBehind 70 = .ok (.getfield 144, 3) := by decide +kernel
theorem d_Ki_kindsBehind_73 : decode b_Ki_kindsBehind 73 = .ok (.iconst 2, 1) := by decide +kernel
theorem d_Ki_kindsBehind_74 : decode b_Ki_kindsBehind 74 = .ok (.aaload, 1) := by decide +kernel
theorem d_Ki_kindsBehind_75 : decode b_Ki_kindsBehind 75 = .ok (.getfield 148, 3) := by decide +kernel
theorem d_Ki_kindsBehind_78 : decode b_Ki_kindsBehind 78 = .ok (.iload_n 2, 1) := by decide +kernel
theorem d_Ki_kindsBehind_79 : decode b_Ki_kindsBehind 79 = .ok (.iaload, 1) := by decide +kernel
theorem d_Ki_kindsBehind_80 : decode b_Ki_kindsBehind 80 = .ok (.iaload, 1) := by decide +kernel
theorem d_Ki_kindsBehind_81 : decode b_Ki_kindsBehind 81 = .ok (.goto 4, 3) := by decide +kernel
theorem d_Ki_kindsBehind_84 : decode b_Ki_kindsBehind 84 = .ok (.iload_n 3, 1) := by decide +kernel
theorem d_Ki_kindsBehind_85 : decode b_Ki_kindsBehind 85 = .ok (.istore 5, 2) := by decide +kernel
theorem d_Ki_kindsBehind_87 : decode b_Ki_kindsBehind 87 = .ok (.iload_n 3, 1) := by decide +kernel
theorem d_Ki_kindsBehind_88 : decode b_Ki_kindsBehind 88 = .ok (.iload 4, 2) := by decide +kernel
theorem d_Ki_kindsBehind_90 : decode b_Ki_kindsBehind 90 = .ok (.iload 5, 2) := by decide +kernel
theorem d_Ki_kindsBehind_92 : decode b_Ki_kindsBehind 92 = .ok (.invokestatic 101, 3) := by decide +kernel
theorem d_Ki_kindsBehind_95 : decode b_Ki_kindsBehind 95 = .ok (.invokestatic 101, 3) := by decide +kernel
theorem d_Ki_kindsBehind_98 : decode b_Ki_kindsBehind 98 = .ok (.istore 6, 2) := by decide +kernel
theorem d_Ki_kindsBehind_100 : decode b_Ki_kindsBehind 100 = .ok (.iload_n 3, 1) := by decide +kernel
theorem d_Ki_kindsBehind_101 : decode b_Ki_kindsBehind 101 = .ok (.iload 4, 2) := by decide +kernel
theorem d_Ki_kindsBehind_103 : decode b_Ki_kindsBehind 103 = .ok (.iload 5, 2) := by decide +kernel
theorem d_Ki_kindsBehind_105 : decode b_Ki_kindsBehind 105 = .ok (.invokestatic 156, 3) := by decide +kernel
theorem d_Ki_kindsBehind_108 : decode b_Ki_kindsBehind 108 = .ok (.invokestatic 156, 3) := by decide +kernel
theorem d_Ki_kindsBehind_111 : decode b_Ki_kindsBehind 111 = .ok (.istore 7, 2) := by decide +kernel
theorem d_Ki_kindsBehind_113 : decode b_Ki_kindsBehind 113 = .ok (.iload_n 3, 1) := by decide +kernel
theorem d_Ki_kindsBehind_114 : decode b_Ki_kindsBehind 114 = .ok (.iload 4, 2) := by decide +kernel
theorem d_Ki_kindsBehind_116 : decode b_Ki_kindsBehind 116 = .ok (.ixor, 1) := by decide +kernel
theorem d_Ki_kindsBehind_117 : decode b_Ki_kindsBehind 117 = .ok (.iload 5, 2) := by decide +kernel
theorem d_Ki_kindsBehind_119 : decode b_Ki_kindsBehind 119 = .ok (.ixor, 1) := by decide +kernel
theorem d_Ki_kindsBehind_120 : decode b_Ki_kindsBehind 120 = .ok (.iload 6, 2) := by decide +kernel
theorem d_Ki_kindsBehind_122 : decode b_Ki_kindsBehind 122 = .ok (.ixor, 1) := by decide +kernel
theorem d_Ki_kindsBehind_123 : decode b_Ki_kindsBehind 123 = .ok (.iload 7, 2) := by decide +kernel
theorem d_Ki_kindsBehind_125 : decode b_Ki_kindsBehind 125 = .ok (.ixor, 1) := by decide +kernel
theorem d_Ki_kindsBehind_126 : decode b_Ki_kindsBehind 126 = .ok (.istore 8, 2) := by decide +kernel
theorem d_Ki_kindsBehind_128 : decode b_Ki_kindsBehind 128 = .ok (.iload 8, 2) := by decide +kernel
theorem d_Ki_kindsBehind_130 : decode b_Ki_kindsBehind 130 = .ok (.iload 7, 2) := by decide +kernel
theorem d_Ki_kindsBehind_132 : decode b_Ki_kindsBehind 132 = .ok (.if_icmp .ne 7, 3) := by decide +kernel
theorem d_Ki_kindsBehind_135 : decode b_Ki_kindsBehind 135 = .ok (.iload 6, 2) := by decide +kernel
theorem d_Ki_kindsBehind_137 : decode b_Ki_kindsBehind 137 = .ok (.istore 8, 2) := by decide +kernel
theorem d_Ki_kindsBehind_139 : decode b_Ki_kindsBehind 139 = .ok (.lconst 1, 1) := by decide +kernel
theorem d_Ki_kindsBehind_140 : decode b_Ki_kindsBehind 140 = .ok (.iload 6, 2) := by decide +kernel
theorem d_Ki_kindsBehind_142 : decode b_Ki_kindsBehind 142 = .ok (.i2l, 1) := by decide +kernel
theorem d_Ki_kindsBehind_143 : decode b_Ki_kindsBehind 143 = .ok (.bipush 24, 2) := by decide +kernel
theorem d_Ki_kindsBehind_145 : decode b_Ki_kindsBehind 145 = .ok (.lshl, 1) := by decide +kernel
theorem d_Ki_kindsBehind_146 : decode b_Ki_kindsBehind 146 = .ok (.iload 8, 2) := by decide +kernel
theorem d_Ki_kindsBehind_148 : decode b_Ki_kindsBehind 148 = .ok (.i2l, 1) := by decide +kernel
theorem d_Ki_kindsBehind_149 : decode b_Ki_kindsBehind 149 = .ok (.bipush 12, 2) := by decide +kernel
theorem d_Ki_kindsBehind_151 : decode b_Ki_kindsBehind 151 = .ok (.lshl, 1) := by decide +kernel
theorem d_Ki_kindsBehind_152 : decode b_Ki_kindsBehind 152 = .ok (.lor, 1) := by decide +kernel
theorem d_Ki_kindsBehind_153 : decode b_Ki_kindsBehind 153 = .ok (.iload 7, 2) := by decide +kernel
theorem d_Ki_kindsBehind_155 : decode b_Ki_kindsBehind 155 = .ok (.i2l, 1) := by decide +kernel
theorem d_Ki_kindsBehind_156 : decode b_Ki_kindsBehind 156 = .ok (.lor, 1) := by decide +kernel
theorem d_Ki_kindsBehind_157 : decode b_Ki_kindsBehind 157 = .ok (.ladd, 1) := by decide +kernel
theorem d_Ki_kindsBehind_158 : decode b_Ki_kindsBehind 158 = .ok (.lreturn, 1) := by decide +kernel
set_option maxRecDepth 100000 in
set_option maxHeartbeats 4000000 in
theorem S_Ki_kindsBehind_0 {G : Gc} {M : Mc} {Q : State → Prop} {K : Option Value → Hp → Prop} (hG : gok G) (hM : mok G M r_Ki_kindsBehind Q K) (v0 : Nat) (v1 : Nat) (v2 : Int32) (h : Hp) (F : kT h v1 = 3 ∧ sem G r_Ac_canBeDone [.ref v1, .int v2] h (fun u2 h1 => ∃ x3 : Int32, u2 = some (.int x3) ∧ ((x3 = 0 → K (some (.long 0)) h1) ∧ (¬ x3 = 0 → (kT h1 v0 = 10 ∧ kR h1 v0 2 = some (rf h1 v0 2) ∧ (kT h1 v1 = 3 ∧ kR h1 v1 1 = some (rf h1 v1 1) ∧ (kT h1 (rf h1 v1 1) = 54 ∧ vp_in 0 (kN h1 (rf h1 v1 1)) ∧ kR h1 (rf h1 v1 1) (Int32.toNatClampNeg 0) = some (rf h1 (rf h1 v1 1) (Int32.toNatClampNeg 0)) ∧ (kT h1 (rf h1 (rf h1 v1 1) (Int32.toNatClampNeg 0)) = 4 ∧ kR h1 (rf h1 (rf h1 v1 1) (Int32.toNatClampNeg 0)) 1 = some (rf h1 (rf h1 (rf h1 v1 1) (Int32.toNatClampNeg 0)) 1) ∧ (kT h1 (rf h1 (rf h1 (rf h1 v1 1) (Int32.toNatClampNeg 0)) 1) = 50 ∧ vp_in v2 (kN h1 (rf h1 (rf h1 (rf h1 v1 1) (Int32.toNatClampNeg 0)) 1)) ∧ (kT h1 (rf h1 v0 2) = 50 ∧ vp_in (kI h1 (rf h1 (rf h1 (rf h1 v1 1) (Int32.toNatClampNeg 0)) 1) (Int32.toNatClampNeg v2)) (kN h1 (rf h1 v0 2)) ∧ (kT h1 v1 = 3 ∧ ((¬ (kI h1 v1 2) ≤ 1 → (kT h1 v0 = 10 ∧ kR h1 v0 2 = some (rf h1 v0 2) ∧ kT h1 v1 = 3 ∧ kR h1 v1 1 = some (rf h1 v1 1) ∧ kT h1 (rf h1 v1 1) = 54 ∧ vp_in 1 (kN h1 (rf h1 v1 1)) ∧ kR h1 (rf h1 v1 1) (Int32.toNatClampNeg 1) = some (rf h1 (rf h1 v1 1) (Int32.toNatClampNeg 1)) ∧ kT h1 (rf h1 (rf h1 v1 1) (Int32.toNatClampNeg 1)) = 4 ∧ kR h1 (rf h1 (rf h1 v1 1) (Int32.toNatClampNeg 1)) 1 = some (rf h1 (rf h1 (rf h1 v1 1) (Int32.toNatClampNeg 1)) 1) ∧ kT h1 (rf h1 (rf h1 (rf h1 v1 1) (Int32.toNatClampNeg 1)) 1) = 50 ∧ vp_in v2 (kN h1 (rf h1 (rf h1 (rf h1 v1 1) (Int32.toNatClampNeg 1)) 1)) ∧ kT h1 (rf h1 v0 2) = 50 ∧ vp_in (kI h1 (rf h1 (rf h1 (rf h1 v1 1) (Int32.toNatClampNeg 1)) 1) (Int32.toNatClampNeg v2)) (kN h1 (rf h1 v0 2)))) ∧ (∀ z4 : Int32, z4 = (if (kI h1 v1 2) ≤ 1 then (kI h1 (rf h1 v0 2) (Int32.toNatClampNeg (kI h1 (rf h1 (rf h1 (rf h1 v1 1) (Int32.toNatClampNeg 0)) 1) (Int32.toNatClampNeg v2)))) else (kI h1 (rf h1 v0 2) (Int32.toNatClampNeg (kI h1 (rf h1 (rf h1 (rf h1 v1 1) (Int32.toNatClampNeg 1)) 1) (Int32.toNatClampNeg v2))))) → (kT h1 v1 = 3 ∧ ((¬ (kI h1 v1 2) ≤ 2 → (kT h1 v0 = 10 ∧ kR h1 v0 2 = some (rf h1 v0 2) ∧ kT h1 v1 = 3 ∧ kR h1 v1 1 = some (rf h1 v1 1) ∧ kT h1 (rf h1 v1 1) = 54 ∧ vp_in 2 (kN h1 (rf h1 v1 1)) ∧ kR h1 (rf h1 v1 1) (Int32.toNatClampNeg 2) = some (rf h1 (rf h1 v1 1) (Int32.toNatClampNeg 2)) ∧ kT h1 (rf h1 (rf h1 v1 1) (Int32.toNatClampNeg 2)) = 4 ∧ kR h1 (rf h1 (rf h1 v1 1) (Int32.toNatClampNeg 2)) 1 = some (rf h1 (rf h1 (rf h1 v1 1) (Int32.toNatClampNeg 2)) 1) ∧ kT h1 (rf h1 (rf h1 (rf h1 v1 1) (Int32.toNatClampNeg 2)) 1) = 50 ∧ vp_in v2 (kN h1 (rf h1 (rf h1 (rf h1 v1 1) (Int32.toNatClampNeg 2)) 1)) ∧ kT h1 (rf h1 v0 2) = 50 ∧ vp_in (kI h1 (rf h1 (rf h1 (rf h1 v1 1) (Int32.toNatClampNeg 2)) 1) (Int32.toNatClampNeg v2)) (kN h1 (rf h1 v0 2)))) ∧ (∀ z5 : Int32, z5 = (if (kI h1 v1 2) ≤ 2 then (kI h1 (rf h1 v0 2) (Int32.toNatClampNeg (kI h1 (rf h1 (rf h1 (rf h1 v1 1) (Int32.toNatClampNeg 0)) 1) (Int32.toNatClampNeg v2)))) else (kI h1 (rf h1 v0 2) (Int32.toNatClampNeg (kI h1 (rf h1 (rf h1 (rf h1 v1 1) (Int32.toNatClampNeg 2)) 1) (Int32.toNatClampNeg v2))))) → (∀ z6 : Int32, z6 = (if z5 < z4 then z5 else z4) → (∀ z7 : Int32, z7 = (if z6 < (kI h1 (rf h1 v0 2) (Int32.toNatClampNeg (kI h1 (rf h1 (rf h1 (rf h1 v1 1) (Int32.toNatClampNeg 0)) 1) (Int32.toNatClampNeg v2)))) then z6 else (kI h1 (rf h1 v0 2) (Int32.toNatClampNeg (kI h1 (rf h1 (rf h1 (rf h1 v1 1) (Int32.toNatClampNeg 0)) 1) (Int32.toNatClampNeg v2))))) → (∀ z8 : Int32, z8 = (if z4 < z5 then z5 else z4) → (∀ z9 : Int32, z9 = (if (kI h1 (rf h1 v0 2) (Int32.toNatClampNeg (kI h1 (rf h1 (rf h1 (rf h1 v1 1) (Int32.toNatClampNeg 0)) 1) (Int32.toNatClampNeg v2)))) < z8 then z8 else (kI h1 (rf h1 v0 2) (Int32.toNatClampNeg (kI h1 (rf h1 (rf h1 (rf h1 v1 1) (Int32.toNatClampNeg 0)) 1) (Int32.toNatClampNeg v2))))) → (∀ z10 : Int32, z10 = (if (((((kI h1 (rf h1 v0 2) (Int32.toNatClampNeg (kI h1 (rf h1 (rf h1 (rf h1 v1 1) (Int32.toNatClampNeg 0)) 1) (Int32.toNatClampNeg v2)))) ^^^ z4) ^^^ z5) ^^^ z7) ^^^ z9) = z9 then z7 else (((((kI h1 (rf h1 v0 2) (Int32.toNatClampNeg (kI h1 (rf h1 (rf h1 (rf h1 v1 1) (Int32.toNatClampNeg 0)) 1) (Int32.toNatClampNeg v2)))) ^^^ z4) ^^^ z5) ^^^ z7) ^^^ z9)) → K (some (.long (1 + ((((Int32.toInt64 z7) <<< (Int32.toInt64 24 &&& 63)) ||| ((Int32.toInt64 z10) <<< (Int32.toInt64 12 &&& 63))) ||| (Int32.toInt64 z9))))) h1))))))))))))))))))))) : X G M Q 0 [(0, .ref v0), (1, .ref v1), (2, .int v2)] [] h := by
  refine x_aload_n hM d_Ki_kindsBehind_0 rfl 1 rfl ?_
  refine x_iload_n hM d_Ki_kindsBehind_1 rfl 2 rfl ?_
  obtain ⟨c56, F⟩ := F
  refine x_callV hG hM (r' := r_Ac_canBeDone) (ci := 2) [.int v2] rfl rfl (Nat.le_of_ble_eq_true rfl) yk_Ac_canBeDone ⟨Nat.le_of_ble_eq_true rfl, Nat.le_of_ble_eq_true rfl⟩ w_732 w_631 w_632 rfl rfl (Nat.le_of_ble_eq_true rfl) d_Ki_kindsBehind_2 c56 (sem_mono F ?_)
  intro u2 h1 F
  obtain ⟨x3, rfl, F⟩ := F
  refine x_if_ne (tgt := 10) hM d_Ki_kindsBehind_5 (by decide) (fun q55 => ?_) (fun q55 => ?_)
  · replace F := F.2 q55
    refine x_aload_n hM d_Ki_kindsBehind_10 rfl 0 rfl ?_
    obtain ⟨c53, F⟩ := F
    obtain ⟨c54, F⟩ := F
    refine x_getr hG hM ck_Ki 2 (Nat.le_of_ble_eq_true rfl) rfl rfl w_325 rfl d_Ki_kindsBehind_11 c53 c54 ?_
    refine x_aload_n hM d_Ki_kindsBehind_14 rfl 1 rfl ?_
    obtain ⟨c51, F⟩ := F
    obtain ⟨c52, F⟩ := F
    refine x_getr hG hM ck_Ac 1 (Nat.le_of_ble_eq_true rfl) rfl rfl w_102 rfl d_Ki_kindsBehind_15 c51 c52 ?_
    refine x_iconst (v := 0) hM d_Ki_kindsBehind_18 (by decide) ?_
    obtain ⟨c48, F⟩ := F
    obtain ⟨c49, F⟩ := F
    obtain ⟨c50, F⟩ := F
    refine x_aaload hG hM 54 rfl (Nat.le_of_ble_eq_true rfl) d_Ki_kindsBehind_19 c48 c49 c50 ?_
    obtain ⟨c46, F⟩ := F
    obtain ⟨c47, F⟩ := F
    refine x_getr hG hM ck_Ou 1 (Nat.le_of_ble_eq_true rfl) rfl rfl w_82 rfl d_Ki_kindsBehind_20 c46 c47 ?_
    refine x_iload_n hM d_Ki_kindsBehind_23 rfl 2 rfl ?_
    obtain ⟨c44, F⟩ := F
    obtain ⟨c45, F⟩ := F
    refine x_iaload hG hM d_Ki_kindsBehind_24 c44 c45 ?_
    obtain ⟨c42, F⟩ := F
    obtain ⟨c43, F⟩ := F
    refine x_iaload hG hM d_Ki_kindsBehind_25 c42 c43 ?_
    refine x_istore_n (lv2 := [(3, .int (kI h1 (rf h1 v0 2) (Int32.toNatClampNeg (kI h1 (rf h1 (rf h1 (rf h1 v1 1) (Int32.toNatClampNeg 0)) 1) (Int32.toNatClampNeg v2))))), (0, .ref v0), (1, .ref v1), (2, .int v2)]) hM d_Ki_kindsBehind_26 rfl (Nat.le_of_ble_eq_true rfl) rfl ?_
    refine x_aload_n hM d_Ki_kindsBehind_27 rfl 2 rfl ?_
    obtain ⟨c41, F⟩ := F
    refine x_geti hG hM ck_Ac 2 (Nat.le_of_ble_eq_true rfl) rfl rfl w_110 rfl d_Ki_kindsBehind_28 c41 ?_
    refine x_iconst (v := 1) hM d_Ki_kindsBehind_31 (by decide) ?_
    obtain ⟨S, F⟩ := F
    have JJ : ∀ (z4 : Int32) (ez4 : z4 = (if (kI h1 v1 2) ≤ 1 then (kI h1 (rf h1 v0 2) (Int32.toNatClampNeg (kI h1 (rf h1 (rf h1 (rf h1 v1 1) (Int32.toNatClampNeg 0)) 1) (Int32.toNatClampNeg v2)))) else (kI h1 (rf h1 v0 2) (Int32.toNatClampNeg (kI h1 (rf h1 (rf h1 (rf h1 v1 1) (Int32.toNatClampNeg 1)) 1) (Int32.toNatClampNeg v2)))))), X G M Q 55 [(0, .ref v0), (1, .ref v1), (2, .int v2), (3, .int (kI h1 (rf h1 v0 2) (Int32.toNatClampNeg (kI h1 (rf h1 (rf h1 (rf h1 v1 1) (Int32.toNatClampNeg 0)) 1) (Int32.toNatClampNeg v2)))))] [.int z4] h1 := by
      intro z4 ez4
      replace F := F _ ez4
      refine x_istore (lv2 := [(4, .int z4), (0, .ref v0), (1, .ref v1), (2, .int v2), (3, .int (kI h1 (rf h1 v0 2) (Int32.toNatClampNeg (kI h1 (rf h1 (rf h1 (rf h1 v1 1) (Int32.toNatClampNeg 0)) 1) (Int32.toNatClampNeg v2)))))]) hM d_Ki_kindsBehind_55 (Nat.le_of_ble_eq_true rfl) rfl ?_
      refine x_aload_n hM d_Ki_kindsBehind_57 rfl 2 rfl ?_
      obtain ⟨c26, F⟩ := F
      refine x_geti hG hM ck_Ac 2 (Nat.le_of_ble_eq_true rfl) rfl rfl w_110 rfl d_Ki_kindsBehind_58 c26 ?_
      refine x_iconst (v := 2) hM d_Ki_kindsBehind_61 (by decide) ?_
      obtain ⟨S, F⟩ := F
      have JJ : ∀ (z5 : Int32) (ez5 : z5 = (if (kI h1 v1 2) ≤ 2 then (kI h1 (rf h1 v0 2) (Int32.toNatClampNeg (kI h1 (rf h1 (rf h1 (rf h1 v1 1) (Int32.toNatClampNeg 0)) 1) (Int32.toNatClampNeg v2)))) else (kI h1 (rf h1 v0 2) (Int32.toNatClampNeg (kI h1 (rf h1 (rf h1 (rf h1 v1 1) (Int32.toNatClampNeg 2)) 1) (Int32.toNatClampNeg v2)))))), X G M Q 85 [(3, .int (kI h1 (rf h1 v0 2) (Int32.toNatClampNeg (kI h1 (rf h1 (rf h1 (rf h1 v1 1) (Int32.toNatClampNeg 0)) 1) (Int32.toNatClampNeg v2))))), (4, .int z4)] [.int z5] h1 := by
        intro z5 ez5
        replace F := F _ ez5
        refine x_istore (lv2 := [(5, .int z5), (3, .int (kI h1 (rf h1 v0 2) (Int32.toNatClampNeg (kI h1 (rf h1 (rf h1 (rf h1 v1 1) (Int32.toNatClampNeg 0)) 1) (Int32.toNatClampNeg v2))))), (4, .int z4)]) hM d_Ki_kindsBehind_85 (Nat.le_of_ble_eq_true rfl) rfl ?_
        refine x_iload_n hM d_Ki_kindsBehind_87 rfl 1 rfl ?_
        refine x_iload hM d_Ki_kindsBehind_88 2 rfl ?_
        refine x_iload hM d_Ki_kindsBehind_90 0 rfl ?_
        obtain ⟨z6, ez6⟩ : ∃ z : Int32, z = (if z5 < z4 then z5 else z4) := ⟨_, rfl⟩
        replace F := F z6 ez6
        refine x_mmin hG hM rfl w_720 w_721 w_14 w_mmin (Nat.le_of_ble_eq_true rfl) (Nat.le_of_ble_eq_true rfl) d_Ki_kindsBehind_92 ?_
        rw [← ez6]
        clear ez6
        obtain ⟨z7, ez7⟩ : ∃ z : Int32, z = (if z6 < (kI h1 (rf h1 v0 2) (Int32.toNatClampNeg (kI h1 (rf h1 (rf h1 (rf h1 v1 1) (Int32.toNatClampNeg 0)) 1) (Int32.toNatClampNeg v2)))) then z6 else (kI h1 (rf h1 v0 2) (Int32.toNatClampNeg (kI h1 (rf h1 (rf h1 (rf h1 v1 1) (Int32.toNatClampNeg 0)) 1) (Int32.toNatClampNeg v2))))) := ⟨_, rfl⟩
        replace F := F z7 ez7
        refine x_mmin hG hM rfl w_720 w_721 w_14 w_mmin (Nat.le_of_ble_eq_true rfl) (Nat.le_of_ble_eq_true rfl) d_Ki_kindsBehind_95 ?_
        rw [← ez7]
        clear ez7
        refine x_istore (lv2 := [(6, .int z7), (5, .int z5), (3, .int (kI h1 (rf h1 v0 2) (Int32.toNatClampNeg (kI h1 (rf h1 (rf h1 (rf h1 v1 1) (Int32.toNatClampNeg 0)) 1) (Int32.toNatClampNeg v2))))), (4, .int z4)]) hM d_Ki_kindsBehind_98 (Nat.le_of_ble_eq_true rfl) rfl ?_
        refine x_iload_n hM d_Ki_kindsBehind_100 rfl 2 rfl ?_
        refine x_iload hM d_Ki_kindsBehind_101 3 rfl ?_
        refine x_iload hM d_Ki_kindsBehind_103 1 rfl ?_
        obtain ⟨z8, ez8⟩ : ∃ z : Int32, z = (if z4 < z5 then z5 else z4) := ⟨_, rfl⟩
        replace F := F z8 ez8
        refine x_mmax hG hM rfl w_733 w_734 w_14 w_mmax (Nat.le_of_ble_eq_true rfl) (Nat.le_of_ble_eq_true rfl) d_Ki_kindsBehind_105 ?_
        rw [← ez8]
        clear ez8
        obtain ⟨z9, ez9⟩ : ∃ z : Int32, z = (if (kI h1 (rf h1 v0 2) (Int32.toNatClampNeg (kI h1 (rf h1 (rf h1 (rf h1 v1 1) (Int32.toNatClampNeg 0)) 1) (Int32.toNatClampNeg v2)))) < z8 then z8 else (kI h1 (rf h1 v0 2) (Int32.toNatClampNeg (kI h1 (rf h1 (rf h1 (rf h1 v1 1) (Int32.toNatClampNeg 0)) 1) (Int32.toNatClampNeg v2))))) := ⟨_, rfl⟩
        replace F := F z9 ez9
        refine x_mmax hG hM rfl w_733 w_734 w_14 w_mmax (Nat.le_of_ble_eq_true rfl) (Nat.le_of_ble_eq_true rfl) d_Ki_kindsBehind_108 ?_
        rw [← ez9]
        clear ez9
        refine x_istore (lv2 := [(7, .int z9), (6, .int z7), (5, .int z5), (3, .int (kI h1 (rf h1 v0 2) (Int32.toNatClampNeg (kI h1 (rf h1 (rf h1 (rf h1 v1 1) (Int32.toNatClampNeg 0)) 1) (Int32.toNatClampNeg v2))))), (4, .int z4)]) hM d_Ki_kindsBehind_111 (Nat.le_of_ble_eq_true rfl) rfl ?_
        refine x_iload_n hM d_Ki_kindsBehind_113 rfl 3 rfl ?_
        refine x_iload hM d_Ki_kindsBehind_114 4 rfl ?_
        refine x_ixor hM d_Ki_kindsBehind_116 ?_
        refine x_iload hM d_Ki_kindsBehind_117 2 rfl ?_
        refine x_ixor hM d_Ki_kindsBehind_119 ?_
        refine x_iload hM d_Ki_kindsBehind_120 1 rfl ?_
        refine x_ixor hM d_Ki_kindsBehind_122 ?_
        refine x_iload hM d_Ki_kindsBehind_123 0 rfl ?_
        refine x_ixor hM d_Ki_kindsBehind_125 ?_
        refine x_istore (lv2 := [(8, .int (((((kI h1 (rf h1 v0 2) (Int32.toNatClampNeg (kI h1 (rf h1 (rf h1 (rf h1 v1 1) (Int32.toNatClampNeg 0)) 1) (Int32.toNatClampNeg v2)))) ^^^ z4) ^^^ z5) ^^^ z7) ^^^ z9)), (7, .int z9), (6, .int z7), (5, .int z5), (3, .int (kI h1 (rf h1 v0 2) (Int32.toNatClampNeg (kI h1 (rf h1 (rf h1 (rf h1 v1 1) (Int32.toNatClampNeg 0)) 1) (Int32.toNatClampNeg v2))))), (4, .int z4)]) hM d_Ki_kindsBehind_126 (Nat.le_of_ble_eq_true rfl) rfl ?_
        refine x_iload hM d_Ki_kindsBehind_128 0 rfl ?_
        refine x_iload hM d_Ki_kindsBehind_130 1 rfl ?_
        have JJ : ∀ (z10 : Int32) (ez10 : z10 = (if (((((kI h1 (rf h1 v0 2) (Int32.toNatClampNeg (kI h1 (rf h1 (rf h1 (rf h1 v1 1) (Int32.toNatClampNeg 0)) 1) (Int32.toNatClampNeg v2)))) ^^^ z4) ^^^ z5) ^^^ z7) ^^^ z9) = z9 then z7 else (((((kI h1 (rf h1 v0 2) (Int32.toNatClampNeg (kI h1 (rf h1 (rf h1 (rf h1 v1 1) (Int32.toNatClampNeg 0)) 1) (Int32.toNatClampNeg v2)))) ^^^ z4) ^^^ z5) ^^^ z7) ^^^ z9))), X G M Q 139 [(6, .int z7), (7, .int z9), (8, .int z10)] [] h1 := by
          intro z10 ez10
          replace F := F _ ez10
          refine x_lconst (v := 1) hM d_Ki_kindsBehind_139 (by decide) ?_
          refine x_iload hM d_Ki_kindsBehind_140 0 rfl ?_
          refine x_i2l hM d_Ki_kindsBehind_142 ?_
          refine x_bipush (v := 24) hM d_Ki_kindsBehind_143 (by decide) ?_
          refine x_lshl hM d_Ki_kindsBehind_145 ?_
          refine x_iload hM d_Ki_kindsBehind_146 2 rfl ?_
          refine x_i2l hM d_Ki_kindsBehind_148 ?_
          refine x_bipush (v := 12) hM d_Ki_kindsBehind_149 (by decide) ?_
          refine x_lshl hM d_Ki_kindsBehind_151 ?_
          refine x_lor hM d_Ki_kindsBehind_152 ?_
          refine x_iload hM d_Ki_kindsBehind_153 1 rfl ?_
          refine x_i2l hM d_Ki_kindsBehind_155 ?_
          refine x_lor hM d_Ki_kindsBehind_156 ?_
          refine x_ladd hM d_Ki_kindsBehind_157 ?_
          exact x_lreturn hM d_Ki_kindsBehind_158 rfl F
        refine x_icmp_ne (tgt := 139) hM d_Ki_kindsBehind_132 (by decide) (fun q11 => ?_) (fun q11 => ?_)
        · refine x_sub [2, 1, 0] rfl ?_
          exact JJ _ (Eq.symm (if_neg q11))
        · refine x_iload hM d_Ki_kindsBehind_135 2 rfl ?_
          refine x_istore (lv2 := [(8, .int z7), (7, .int z9), (6, .int z7), (5, .int z5), (3, .int (kI h1 (rf h1 v0 2) (Int32.toNatClampNeg (kI h1 (rf h1 (rf h1 (rf h1 v1 1) (Int32.toNatClampNeg 0)) 1) (Int32.toNatClampNeg v2))))), (4, .int z4)]) hM d_Ki_kindsBehind_137 (Nat.le_of_ble_eq_true rfl) rfl ?_
          refine x_sub [2, 1, 0] rfl ?_
          exact JJ _ (Eq.symm (if_pos q11))
      refine x_icmp_le (tgt := 84) hM d_Ki_kindsBehind_62 (by decide) (fun q12 => ?_) (fun q12 => ?_)
      · refine x_iload_n hM d_Ki_kindsBehind_84 rfl 4 rfl ?_
        refine x_sub [4, 0] rfl ?_
        exact JJ _ (Eq.symm (if_pos q12))
      · replace S := S q12
        refine x_aload_n hM d_Ki_kindsBehind_65 rfl 1 rfl ?_
        obtain ⟨c13, S⟩ := S
        obtain ⟨c14, S⟩ := S
        refine x_getr hG hM ck_Ki 2 (Nat.le_of_ble_eq_true rfl) rfl rfl w_325 rfl d_Ki_kindsBehind_66 c13 c14 ?_
        refine x_aload_n hM d_Ki_kindsBehind_69 rfl 2 rfl ?_
        obtain ⟨c15, S⟩ := S
        obtain ⟨c16, S⟩ := S
        refine x_getr hG hM ck_Ac 1 (Nat.le_of_ble_eq_true rfl) rfl rfl w_102 rfl d_Ki_kindsBehind_70 c15 c16 ?_
        refine x_iconst (v := 2) hM d_Ki_kindsBehind_73 (by decide) ?_
        obtain ⟨c17, S⟩ := S
        obtain ⟨c18, S⟩ := S
        obtain ⟨c19, S⟩ := S
        refine x_aaload hG hM 54 rfl (Nat.le_of_ble_eq_true rfl) d_Ki_kindsBehind_74 c17 c18 c19 ?_
        obtain ⟨c20, S⟩ := S
        obtain ⟨c21, S⟩ := S
        refine x_getr hG hM ck_Ou 1 (Nat.le_of_ble_eq_true rfl) rfl rfl w_82 rfl d_Ki_kindsBehind_75 c20 c21 ?_
        refine x_iload_n hM d_Ki_kindsBehind_78 rfl 3 rfl ?_
        obtain ⟨c22, S⟩ := S
        obtain ⟨c23, S⟩ := S
        refine x_iaload hG hM d_Ki_kindsBehind_79 c22 c23 ?_
        obtain ⟨c24, S⟩ := S
        have c25 := S
        refine x_iaload hG hM d_Ki_kindsBehind_80 c24 c25 ?_
        refine x_goto (tgt := 85) hM d_Ki_kindsBehind_81 (by decide) ?_
        refine x_sub [4, 0] rfl ?_
        exact JJ _ (Eq.symm (if_neg q12))
    refine x_icmp_le (tgt := 54) hM d_Ki_kindsBehind_32 (by decide) (fun q27 => ?_) (fun q27 => ?_)
    · refine x_iload_n hM d_Ki_kindsBehind_54 rfl 0 rfl ?_
      refine x_sub [1, 2, 3, 0] rfl ?_
      exact JJ _ (Eq.symm (if_pos q27))
    · replace S := S q27
      refine x_aload_n hM d_Ki_kindsBehind_35 rfl 1 rfl ?_
      obtain ⟨c28, S⟩ := S
      obtain ⟨c29, S⟩ := S
      refine x_getr hG hM ck_Ki 2 (Nat.le_of_ble_eq_true rfl) rfl rfl w_325 rfl d_Ki_kindsBehind_36 c28 c29 ?_
      refine x_aload_n hM d_Ki_kindsBehind_39 rfl 2 rfl ?_
      obtain ⟨c30, S⟩ := S
      obtain ⟨c31, S⟩ := S
      refine x_getr hG hM ck_Ac 1 (Nat.le_of_ble_eq_true rfl) rfl rfl w_102 rfl d_Ki_kindsBehind_40 c30 c31 ?_
      refine x_iconst (v := 1) hM d_Ki_kindsBehind_43 (by decide) ?_
      obtain ⟨c32, S⟩ := S
      obtain ⟨c33, S⟩ := S
      obtain ⟨c34, S⟩ := S
      refine x_aaload hG hM 54 rfl (Nat.le_of_ble_eq_true rfl) d_Ki_kindsBehind_44 c32 c33 c34 ?_
      obtain ⟨c35, S⟩ := S
      obtain ⟨c36, S⟩ := S
      refine x_getr hG hM ck_Ou 1 (Nat.le_of_ble_eq_true rfl) rfl rfl w_82 rfl d_Ki_kindsBehind_45 c35 c36 ?_
      refine x_iload_n hM d_Ki_kindsBehind_48 rfl 3 rfl ?_
      obtain ⟨c37, S⟩ := S
      obtain ⟨c38, S⟩ := S
      refine x_iaload hG hM d_Ki_kindsBehind_49 c37 c38 ?_
      obtain ⟨c39, S⟩ := S
      have c40 := S
      refine x_iaload hG hM d_Ki_kindsBehind_50 c39 c40 ?_
      refine x_goto (tgt := 55) hM d_Ki_kindsBehind_51 (by decide) ?_
      refine x_sub [1, 2, 3, 0] rfl ?_
      exact JJ _ (Eq.symm (if_neg q27))
  · replace F := F.1 q55
    refine x_lconst (v := 0) hM d_Ki_kindsBehind_8 (by decide) ?_
    exact x_lreturn hM d_Ki_kindsBehind_9 rfl F
theorem d_Ki_slotOf_0 : decode b_Ki_slotOf 0 = .ok (.lload_n 1, 1) := by decide +kernel
theorem d_Ki_slotOf_1 : decode b_Ki_slotOf 1 = .ok (.ldc2_w 136, 3) := by decide +kernel
theorem d_Ki_slotOf_4 : decode b_Ki_slotOf 4 = .ok (.lmul, 1) := by decide +kernel
theorem d_Ki_slotOf_5 : decode b_Ki_slotOf 5 = .ok (.bipush 40, 2) := by decide +kernel
theorem d_Ki_slotOf_7 : decode b_Ki_slotOf 7 = .ok (.lushr, 1) := by decide +kernel
theorem d_Ki_slotOf_8 : decode b_Ki_slotOf 8 = .ok (.l2i, 1) := by decide +kernel
theorem d_Ki_slotOf_9 : decode b_Ki_slotOf 9 = .ok (.iload_n 3, 1) := by decide +kernel
theorem d_Ki_slotOf_10 : decode b_Ki_slotOf 10 = .ok (.iand, 1) := by decide +kernel
theorem d_Ki_slotOf_11 : decode b_Ki_slotOf 11 = .ok (.istore 4, 2) := by decide +kernel
theorem d_Ki_slotOf_13 : decode b_Ki_slotOf 13 = .ok (.iconst 0, 1) := by decide +kernel
theorem d_Ki_slotOf_14 : decode b_Ki_slotOf 14 = .ok (.istore 5, 2) := by decide +kernel
theorem d_Ki_slotOf_16 : decode b_Ki_slotOf 16 = .ok (.iload 5, 2) := by decide +kernel
theorem d_Ki_slotOf_18 : decode b_Ki_slotOf 18 = .ok (.iload_n 3, 1) := by decide +kernel
theorem d_Ki_slotOf_19 : decode b_Ki_slotOf 19 = .ok (.if_icmp .ge 40, 3) := by decide +kernel
theorem d_Ki_slotOf_22 : decode b_Ki_slotOf 22 = .ok (.aload_n 0, 1) := by decide +kernel
theorem d_Ki_slotOf_23 : decode b_Ki_slotOf 23 = .ok (.getfield 62, 3) := by decide +kernel
theorem d_Ki_slotOf_26 : decode b_Ki_slotOf 26 = .ok (.iload 4, 2) := by decide +kernel
theorem d_Ki_slotOf_28 : decode b_Ki_slotOf 28 = .ok (.iaload, 1) := by decide +kernel
theorem d_Ki_slotOf_29 : decode b_Ki_slotOf 29 = .ok (.iconst (-1), 1) := by decide +kernel
theorem d_Ki_slotOf_30 : decode b_Ki_slotOf 30 = .ok (.if_icmp .eq 29, 3) := by decide +kernel
theorem d_Ki_slotOf_33 : decode b_Ki_slotOf 33 = .ok (.aload_n 0, 1) := by decide +kernel
theorem d_Ki_slotOf_34 : decode b_Ki_slotOf 34 = .ok (.getfield 65, 3) := by decide +kernel
theorem d_Ki_slotOf_37 : decode b_Ki_slotOf 37 = .ok (.iload 4, 2) := by decide +kernel
theorem d_Ki_slotOf_39 : decode b_Ki_slotOf 39 = .ok (.laload, 1) := by decide +kernel
theorem d_Ki_slotOf_40 : decode b_Ki_slotOf 40 = .ok (.lload_n 1, 1) := by decide +kernel
theorem d_Ki_slotOf_41 : decode b_Ki_slotOf 41 = .ok (.lcmp, 1) := by decide +kernel
theorem d_Ki_slotOf_42 : decode b_Ki_slotOf 42 = .ok (.ifCond .eq 17, 3) := by decide +kernel
theorem d_Ki_slotOf_45 : decode b_Ki_slotOf 45 = .ok (.iload 4, 2) := by decide +kernel
theorem d_Ki_slotOf_47 : decode b_Ki_slotOf 47 = .ok (.iconst 1, 1) := by decide +kernel
theorem d_Ki_slotOf_48 : decode b_Ki_slotOf 48 = .ok (.iadd, 1) := by decide +kernel
theorem d_Ki_slotOf_49 : decode b_Ki_slotOf 49 = .ok (.iload_n 3, 1) := by decide +kernel
theorem d_Ki_slotOf_50 : decode b_Ki_slotOf 50 = .ok (.iand, 1) := by decide +kernel
theorem d_Ki_slotOf_51 : decode b_Ki_slotOf 51 = .ok (.istore 4, 2) := by decide +kernel
theorem d_Ki_slotOf_53 : decode b_Ki_slotOf 53 = .ok (.iinc 5 1, 3) := by decide +kernel
theorem d_Ki_slotOf_56 : decode b_Ki_slotOf 56 = .ok (.goto (-40), 3) := by decide +kernel
theorem d_Ki_slotOf_59 : decode b_Ki_slotOf 59 = .ok (.iload 4, 2) := by decide +kernel
theorem d_Ki_slotOf_61 : decode b_Ki_slotOf 61 = .ok (.ireturn, 1) := by decide +kernel
set_option maxRecDepth 100000 in
set_option maxHeartbeats 4000000 in
theorem S_Ki_slotOf_0 {G : Gc} {M : Mc} {Q : State → Prop} {K : Option Value → Hp → Prop} (hG : gok G) (hM : mok G M r_Ki_slotOf Q K) (v0 : Nat) (v1 : Int64) (v3 : Int32) (h : Hp) (F : X G M Q 16 [(0, .ref v0), (1, .long v1), (3, .int v3), (4, .int ((Int64.toInt32 ((Int64.toUInt64 (v1 * (-7046029254386353131)) >>> ((Int32.toInt64 40).toUInt64 &&& Int64.toUInt64 63)).toInt64)) &&& v3)), (5, .int 0)] [] h) : X G M Q 0 [(0, .ref v0), (1, .long v1), (3, .int v3)] [] h := by
  refine x_lload_n hM d_Ki_slotOf_0 rfl 1 rfl ?_
  refine x_ldc2 hG hM rfl w_740 d_Ki_slotOf_1 ?_
  refine x_lmul hM d_Ki_slotOf_4 ?_
  refine x_bipush (v := 40) hM d_Ki_slotOf_5 (by decide) ?_
  refine x_lushr hM d_Ki_slotOf_7 ?_
  refine x_l2i hM d_Ki_slotOf_8 ?_
  refine x_iload_n hM d_Ki_slotOf_9 rfl 2 rfl ?_
  refine x_iand hM d_Ki_slotOf_10 ?_
  refine x_istore (lv2 := [(4, .int ((Int64.toInt32 ((Int64.toUInt64 (v1 * (-7046029254386353131)) >>> ((Int32.toInt64 40).toUInt64 &&& Int64.toUInt64 63)).toInt64)) &&& v3)), (0, .ref v0), (1, .long v1), (3, .int v3)]) hM d_Ki_slotOf_11 (Nat.le_of_ble_eq_true rfl) rfl ?_
  refine x_iconst (v := 0) hM d_Ki_slotOf_13 (by decide) ?_
  refine x_istore (lv2 := [(5, .int 0), (4, .int ((Int64.toInt32 ((Int64.toUInt64 (v1 * (-7046029254386353131)) >>> ((Int32.toInt64 40).toUInt64 &&& Int64.toUInt64 63)).toInt64)) &&& v3)), (0, .ref v0), (1, .long v1), (3, .int v3)]) hM d_Ki_slotOf_14 (Nat.le_of_ble_eq_true rfl) rfl ?_
  refine x_sub [2, 3, 4, 1, 0] rfl ?_
  exact F
set_option maxRecDepth 100000 in
set_option maxHeartbeats 4000000 in
theorem S_Ki_slotOf_16 {G : Gc} {M : Mc} {Q : State → Prop} {K : Option Value → Hp → Prop} (hG : gok G) (hM : mok G M r_Ki_slotOf Q K) (v0 : Nat) (v1 : Int64) (v3 : Int32) (v4 : Int32) (v5 : Int32) (h : Hp) (F : (v3 ≤ v5 → K (some (.int v4)) h) ∧ (¬ v3 ≤ v5 → (kT h v0 = 10 ∧ kR h v0 16 = some (rf h v0 16) ∧ (kT h (rf h v0 16) = 50 ∧ vp_in v4 (kN h (rf h v0 16)) ∧ (((kI h (rf h v0 16) (Int32.toNatClampNeg v4)) = (-1) → K (some (.int v4)) h) ∧ (¬ (kI h (rf h v0 16) (Int32.toNatClampNeg v4)) = (-1) → (kT h v0 = 10 ∧ kR h v0 17 = some (rf h v0 17) ∧ (kT h (rf h v0 17) = 52 ∧ vp_in v4 (kN h (rf h v0 17)) ∧ (((lg_cmp (kL h (rf h v0 17) (Int32.toNatClampNeg v4)) v1) = 0 → K (some (.int v4)) h) ∧ (¬ (lg_cmp (kL h (rf h v0 17) (Int32.toNatClampNeg v4)) v1) = 0 → X G M Q 16 [(0, .ref v0), (1, .long v1), (3, .int v3), (4, .int ((v4 + 1) &&& v3)), (5, .int (v5 + 1))] [] h)))))))))) : X G M Q 16 [(0, .ref v0), (1, .long v1), (3, .int v3), (4, .int v4), (5, .int v5)] [] h := by
  refine x_iload hM d_Ki_slotOf_16 4 rfl ?_
  refine x_iload_n hM d_Ki_slotOf_18 rfl 2 rfl ?_
  refine x_icmp_ge (tgt := 59) hM d_Ki_slotOf_19 (by decide) (fun q11 => ?_) (fun q11 => ?_)
  · replace F := F.1 q11
    refine x_iload hM d_Ki_slotOf_59 3 rfl ?_
    exact x_ireturn hM d_Ki_slotOf_61 rfl F
  · replace F := F.2 q11
    refine x_aload_n hM d_Ki_slotOf_22 rfl 0 rfl ?_
    obtain ⟨c9, F⟩ := F
    obtain ⟨c10, F⟩ := F
    refine x_getr hG hM ck_Ki 16 (Nat.le_of_ble_eq_true rfl) rfl rfl w_341 rfl d_Ki_slotOf_23 c9 c10 ?_
    refine x_iload hM d_Ki_slotOf_26 3 rfl ?_
    obtain ⟨c7, F⟩ := F
    obtain ⟨c8, F⟩ := F
    refine x_iaload hG hM d_Ki_slotOf_28 c7 c8 ?_
    refine x_iconst (v := (-1)) hM d_Ki_slotOf_29 (by decide) ?_
    refine x_icmp_eq (tgt := 59) hM d_Ki_slotOf_30 (by decide) (fun q6 => ?_) (fun q6 => ?_)
    · replace F := F.1 q6
      refine x_iload hM d_Ki_slotOf_59 3 rfl ?_
      exact x_ireturn hM d_Ki_slotOf_61 rfl F
    · replace F := F.2 q6
      refine x_aload_n hM d_Ki_slotOf_33 rfl 0 rfl ?_
      obtain ⟨c4, F⟩ := F
      obtain ⟨c5, F⟩ := F
      refine x_getr hG hM ck_Ki 17 (Nat.le_of_ble_eq_true rfl) rfl rfl w_342 rfl d_Ki_slotOf_34 c4 c5 ?_
      refine x_iload hM d_Ki_slotOf_37 3 rfl ?_
      obtain ⟨c2, F⟩ := F
      obtain ⟨c3, F⟩ := F
      refine x_laload hG hM d_Ki_slotOf_39 c2 c3 ?_
      refine x_lload_n hM d_Ki_slotOf_40 rfl 1 rfl ?_
      refine x_lcmp hM d_Ki_slotOf_41 ?_
      refine x_if_eq (tgt := 59) hM d_Ki_slotOf_42 (by decide) (fun q1 => ?_) (fun q1 => ?_)
      · replace F := F.1 q1
        refine x_iload hM d_Ki_slotOf_59 3 rfl ?_
        exact x_ireturn hM d_Ki_slotOf_61 rfl F
      · replace F := F.2 q1
        refine x_iload hM d_Ki_slotOf_45 3 rfl ?_
        refine x_iconst (v := 1) hM d_Ki_slotOf_47 (by decide) ?_
        refine x_iadd hM d_Ki_slotOf_48 ?_
        refine x_iload_n hM d_Ki_slotOf_49 rfl 2 rfl ?_
        refine x_iand hM d_Ki_slotOf_50 ?_
        refine x_istore (lv2 := [(4, .int ((v4 + 1) &&& v3)), (0, .ref v0), (1, .long v1), (3, .int v3), (5, .int v5)]) hM d_Ki_slotOf_51 (Nat.le_of_ble_eq_true rfl) rfl ?_
        refine x_iinc (v := (v5 + 1)) (lv2 := [(5, .int (v5 + 1)), (4, .int ((v4 + 1) &&& v3)), (0, .ref v0), (1, .long v1), (3, .int v3)]) hM d_Ki_slotOf_53 (j := 4) rfl rfl (Nat.le_of_ble_eq_true rfl) rfl ?_
        refine x_goto (tgt := 16) hM d_Ki_slotOf_56 (by decide) ?_
        refine x_sub [2, 3, 4, 1, 0] rfl ?_
        exact F
