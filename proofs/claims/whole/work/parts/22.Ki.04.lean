theorem d_Ki_markThoseBefore_0 : decode b_Ki_markThoseBefore 0 = .ok (.aload_n 1, 1) := by decide +kernel
theorem d_Ki_markThoseBefore_1 : decode b_Ki_markThoseBefore 1 = .ok (.getfield 168, 3) := by decide +kernel
theorem d_Ki_markThoseBefore_4 : decode b_Ki_markThoseBefore 4 = .ok (.iload_n 2, 1) := by decide +kernel
theorem d_Ki_markThoseBefore_5 : decode b_Ki_markThoseBefore 5 = .ok (.iaload, 1) := by decide +kernel
theorem d_Ki_markThoseBefore_6 : decode b_Ki_markThoseBefore 6 = .ok (.istore_n 3, 1) := by decide +kernel
theorem d_Ki_markThoseBefore_7 : decode b_Ki_markThoseBefore 7 = .ok (.iconst 0, 1) := by decide +kernel
theorem d_Ki_markThoseBefore_8 : decode b_Ki_markThoseBefore 8 = .ok (.istore 4, 2) := by decide +kernel
theorem d_Ki_markThoseBefore_10 : decode b_Ki_markThoseBefore 10 = .ok (.iload 4, 2) := by decide +kernel
theorem d_Ki_markThoseBefore_12 : decode b_Ki_markThoseBefore 12 = .ok (.ldc 171, 2) := by decide +kernel
theorem d_Ki_markThoseBefore_14 : decode b_Ki_markThoseBefore 14 = .ok (.if_icmp .ge 88, 3) := by decide +kernel
theorem d_Ki_markThoseBefore_17 : decode b_Ki_markThoseBefore 17 = .ok (.iload_n 3, 1) := by decide +kernel
theorem d_Ki_markThoseBefore_18 : decode b_Ki_markThoseBefore 18 = .ok (.iconst (-1), 1) := by decide +kernel
theorem d_Ki_markThoseBefore_19 : decode b_Ki_markThoseBefore 19 = .ok (.if_icmp .eq 83, 3) := by decide +kernel
theorem d_Ki_markThoseBefore_22 : decode b_Ki_markThoseBefore 22 = .ok (.iload_n 3, 1) := by decide +kernel
theorem d_Ki_markThoseBefore_23 : decode b_Ki_markThoseBefore 23 = .ok (.invokestatic 172, 3) := by decide +kernel
theorem d_Ki_markThoseBefore_26 : decode b_Ki_markThoseBefore 26 = .ok (.istore 5, 2) := by decide +kernel
theorem d_Ki_markThoseBefore_28 : decode b_Ki_markThoseBefore 28 = .ok (.aload_n 0, 1) := by decide +kernel
theorem d_Ki_markThoseBefore_29 : decode b_Ki_markThoseBefore 29 = .ok (.getfield 19, 3) := by decide +kernel
theorem d_Ki_markThoseBefore_32 : decode b_Ki_markThoseBefore 32 = .ok (.iload 5, 2) := by decide +kernel
theorem d_Ki_markThoseBefore_34 : decode b_Ki_markThoseBefore 34 = .ok (.iaload, 1) := by decide +kernel
theorem d_Ki_markThoseBefore_35 : decode b_Ki_markThoseBefore 35 = .ok (.istore 6, 2) := by decide +kernel
theorem d_Ki_markThoseBefore_37 : decode b_Ki_markThoseBefore 37 = .ok (.aload_n 0, 1) := by decide +kernel
theorem d_Ki_markThoseBefore_38 : decode b_Ki_markThoseBefore 38 = .ok (.getfield 35, 3) := by decide +kernel
theorem d_Ki_markThoseBefore_41 : decode b_Ki_markThoseBefore 41 = .ok (.iload 6, 2) := by decide +kernel
theorem d_Ki_markThoseBefore_43 : decode b_Ki_markThoseBefore 43 = .ok (.iaload, 1) := by decide +kernel
theorem d_Ki_markThoseBefore_44 : decode b_Ki_markThoseBefore 44 = .ok (.aload_n 0, 1) := by decide +kernel
theorem d_Ki_markThoseBefore_45 : decode b_Ki_markThoseBefore 45 = .ok (.getfield 32, 3) := by decide +kernel
theorem d_Ki_markThoseBefore_48 : decode b_Ki_markThoseBefore 48 = .ok (.iload 6, 2) := by decide +kernel
theorem d_Ki_markThoseBefore_50 : decode b_Ki_markThoseBefore 50 = .ok (.iaload, 1) := by decide +kernel
theorem d_Ki_markThoseBefore_51 : decode b_Ki_markThoseBefore 51 = .ok (.isub, 1) := by decide +kernel
theorem d_Ki_markThoseBefore_52 : decode b_Ki_markThoseBefore 52 = .ok (.iconst 1, 1) := by decide +kernel
theorem d_Ki_markThoseBefore_53 : decode b_Ki_markThoseBefore 53 = .ok (.if_icmp .le 37, 3) := by decide +kernel
theorem d_Ki_markThoseBefore_56 : decode b_Ki_markThoseBefore 56 = .ok (.aload_n 0, 1) := by decide +kernel
theorem d_Ki_markThoseBefore_57 : decode b_Ki_markThoseBefore 57 = .ok (.getfield 41, 3) := by decide +kernel
theorem d_Ki_markThoseBefore_60 : decode b_Ki_markThoseBefore 60 = .ok (.iload 5, 2) := by decide +kernel
theorem d_Ki_markThoseBefore_62 : decode b_Ki_markThoseBefore 62 = .ok (.iaload, 1) := by decide +kernel
theorem d_Ki_markThoseBefore_63 : decode b_Ki_markThoseBefore 63 = .ok (.ifCond .ne 11, 3) := by decide +kernel
theorem d_Ki_markThoseBefore_66 : decode b_Ki_markThoseBefore 66 = .ok (.aload_n 0, 1) := by decide +kernel
theorem d_Ki_markThoseBefore_67 : decode b_Ki_markThoseBefore 67 = .ok (.iload 5, 2) := by decide +kernel
theorem d_Ki_markThoseBefore_69 : decode b_Ki_markThoseBefore 69 = .ok (.iload 6, 2) := by decide +kernel
theorem d_Ki_markThoseBefore_71 : decode b_Ki_markThoseBefore 71 = .ok (.invokevirtual 175, 3) := by decide +kernel
theorem d_Ki_markThoseBefore_74 : decode b_Ki_markThoseBefore 74 = .ok (.aload_n 0, 1) := by decide +kernel
theorem d_Ki_markThoseBefore_75 : decode b_Ki_markThoseBefore 75 = .ok (.getfield 41, 3) := by decide +kernel
theorem d_Ki_markThoseBefore_78 : decode b_Ki_markThoseBefore 78 = .ok (.iload 5, 2) := by decide +kernel
theorem d_Ki_markThoseBefore_80 : decode b_Ki_markThoseBefore 80 = .ok (.dup2, 1) := by decide +kernel
theorem d_Ki_markThoseBefore_81 : decode b_Ki_markThoseBefore 81 = .ok (.iaload, 1) := by decide +kernel
theorem d_Ki_markThoseBefore_82 : decode b_Ki_markThoseBefore 82 = .ok (.iconst 1, 1) := by decide +kernel
theorem d_Ki_markThoseBefore_83 : decode b_Ki_markThoseBefore 83 = .ok (.iload_n 3, 1) := by decide +kernel
theorem d_Ki_markThoseBefore_84 : decode b_Ki_markThoseBefore 84 = .ok (.invokestatic 179, 3) := by decide +kernel
theorem d_Ki_markThoseBefore_87 : decode b_Ki_markThoseBefore 87 = .ok (.ishl, 1) := by decide +kernel
theorem d_Ki_markThoseBefore_88 : decode b_Ki_markThoseBefore 88 = .ok (.ior, 1) := by decide +kernel
theorem d_Ki_markThoseBefore_89 : decode b_Ki_markThoseBefore 89 = .ok (.iastore, 1) := by decide +kernel
theorem d_Ki_markThoseBefore_90 : decode b_Ki_markThoseBefore 90 = .ok (.aload_n 1, 1) := by decide +kernel
theorem d_Ki_markThoseBefore_91 : decode b_Ki_markThoseBefore 91 = .ok (.iload_n 3, 1) := by decide +kernel
theorem d_Ki_markThoseBefore_92 : decode b_Ki_markThoseBefore 92 = .ok (.invokevirtual 182, 3) := by decide +kernel
theorem d_Ki_markThoseBefore_95 : decode b_Ki_markThoseBefore 95 = .ok (.istore_n 3, 1) := by decide +kernel
theorem d_Ki_markThoseBefore_96 : decode b_Ki_markThoseBefore 96 = .ok (.iinc 4 1, 3) := by decide +kernel
theorem d_Ki_markThoseBefore_99 : decode b_Ki_markThoseBefore 99 = .ok (.goto (-89), 3) := by decide +kernel
theorem d_Ki_markThoseBefore_102 : decode b_Ki_markThoseBefore 102 = .ok (.return_, 1) := by decide +kernel
set_option maxRecDepth 100000 in
set_option maxHeartbeats 4000000 in
theorem S_Ki_markThoseBefore_0 {G : Gc} {M : Mc} {Q : State → Prop} {K : Option Value → Hp → Prop} (hG : gok G) (hM : mok G M r_Ki_markThoseBefore Q K) (v0 : Nat) (v1 : Nat) (v2 : Int32) (h : Hp) (F : kT h v1 = 2 ∧ kR h v1 7 = some (rf h v1 7) ∧ (kT h (rf h v1 7) = 50 ∧ vp_in v2 (kN h (rf h v1 7)) ∧ X G M Q 10 [(0, .ref v0), (1, .ref v1), (3, .int (kI h (rf h v1 7) (Int32.toNatClampNeg v2))), (4, .int 0)] [] h)) : X G M Q 0 [(0, .ref v0), (1, .ref v1), (2, .int v2)] [] h := by
  refine x_aload_n hM d_Ki_markThoseBefore_0 rfl 1 rfl ?_
  obtain ⟨c3, F⟩ := F
  obtain ⟨c4, F⟩ := F
  refine x_getr hG hM ck_Wo 7 (Nat.le_of_ble_eq_true rfl) rfl rfl w_158 rfl d_Ki_markThoseBefore_1 c3 c4 ?_
  refine x_iload_n hM d_Ki_markThoseBefore_4 rfl 2 rfl ?_
  obtain ⟨c1, F⟩ := F
  obtain ⟨c2, F⟩ := F
  refine x_iaload hG hM d_Ki_markThoseBefore_5 c1 c2 ?_
  refine x_istore_n (lv2 := [(3, .int (kI h (rf h v1 7) (Int32.toNatClampNeg v2))), (0, .ref v0), (1, .ref v1), (2, .int v2)]) hM d_Ki_markThoseBefore_6 rfl (Nat.le_of_ble_eq_true rfl) rfl ?_
  refine x_iconst (v := 0) hM d_Ki_markThoseBefore_7 (by decide) ?_
  refine x_istore (lv2 := [(4, .int 0), (3, .int (kI h (rf h v1 7) (Int32.toNatClampNeg v2))), (0, .ref v0), (1, .ref v1), (2, .int v2)]) hM d_Ki_markThoseBefore_8 (Nat.le_of_ble_eq_true rfl) rfl ?_
  refine x_sub [2, 3, 1, 0] rfl ?_
  exact F
set_option maxRecDepth 100000 in
set_option maxHeartbeats 4000000 in
theorem S_Ki_markThoseBefore_10 {G : Gc} {M : Mc} {Q : State → Prop} {K : Option Value → Hp → Prop} (hG : gok G) (hM : mok G M r_Ki_markThoseBefore Q K) (v0 : Nat) (v1 : Nat) (v3 : Int32) (v4 : Int32) (h : Hp) (F : (147456 ≤ v4 → K none h) ∧ (¬ 147456 ≤ v4 → ((v3 = (-1) → K none h) ∧ (¬ v3 = (-1) → (sem G r_WP_stateOf [.int v3] h (fun u2 h1 => ∃ x3 : Int32, u2 = some (.int x3) ∧ (kT h1 v0 = 10 ∧ kR h1 v0 2 = some (rf h1 v0 2) ∧ (kT h1 (rf h1 v0 2) = 50 ∧ vp_in x3 (kN h1 (rf h1 v0 2)) ∧ (kT h1 v0 = 10 ∧ kR h1 v0 7 = some (rf h1 v0 7) ∧ (kT h1 (rf h1 v0 7) = 50 ∧ vp_in (kI h1 (rf h1 v0 2) (Int32.toNatClampNeg x3)) (kN h1 (rf h1 v0 7)) ∧ (kT h1 v0 = 10 ∧ kR h1 v0 6 = some (rf h1 v0 6) ∧ (kT h1 (rf h1 v0 6) = 50 ∧ vp_in (kI h1 (rf h1 v0 2) (Int32.toNatClampNeg x3)) (kN h1 (rf h1 v0 6)) ∧ ((((kI h1 (rf h1 v0 7) (Int32.toNatClampNeg (kI h1 (rf h1 v0 2) (Int32.toNatClampNeg x3)))) - (kI h1 (rf h1 v0 6) (Int32.toNatClampNeg (kI h1 (rf h1 v0 2) (Int32.toNatClampNeg x3))))) ≤ 1 → (kT h1 v1 = 2 ∧ sem G r_Wo_nextInto [.ref v1, .int v3] h1 (fun u5 h4 => ∃ x6 : Int32, u5 = some (.int x6) ∧ X G M Q 10 [(0, .ref v0), (1, .ref v1), (3, .int x6), (4, .int (v4 + 1))] [] h4))) ∧ (¬ ((kI h1 (rf h1 v0 7) (Int32.toNatClampNeg (kI h1 (rf h1 v0 2) (Int32.toNatClampNeg x3)))) - (kI h1 (rf h1 v0 6) (Int32.toNatClampNeg (kI h1 (rf h1 v0 2) (Int32.toNatClampNeg x3))))) ≤ 1 → (kT h1 v0 = 10 ∧ kR h1 v0 9 = some (rf h1 v0 9) ∧ (kT h1 (rf h1 v0 9) = 50 ∧ vp_in x3 (kN h1 (rf h1 v0 9)) ∧ (((kI h1 (rf h1 v0 9) (Int32.toNatClampNeg x3)) = 0 → (kT h1 v0 = 10 ∧ sem G r_Ki_moveToChanged [.ref v0, .int x3, .int (kI h1 (rf h1 v0 2) (Int32.toNatClampNeg x3))] h1 (fun u9 h8 => u9 = none ∧ X G M Q 74 [(0, .ref v0), (1, .ref v1), (3, .int v3), (4, .int v4), (5, .int x3)] [] h8))) ∧ (¬ (kI h1 (rf h1 v0 9) (Int32.toNatClampNeg x3)) = 0 → X G M Q 74 [(0, .ref v0), (1, .ref v1), (3, .int v3), (4, .int v4), (5, .int x3)] [] h1)))))))))))))))))) : X G M Q 10 [(0, .ref v0), (1, .ref v1), (3, .int v3), (4, .int v4)] [] h := by
  refine x_iload hM d_Ki_markThoseBefore_10 3 rfl ?_
  refine x_ldc hG hM rfl w_756 d_Ki_markThoseBefore_12 ?_
  refine x_icmp_ge (tgt := 102) hM d_Ki_markThoseBefore_14 (by decide) (fun q30 => ?_) (fun q30 => ?_)
  · replace F := F.1 q30
    exact x_return hM d_Ki_markThoseBefore_102 rfl F
  · replace F := F.2 q30
    refine x_iload_n hM d_Ki_markThoseBefore_17 rfl 2 rfl ?_
    refine x_iconst (v := (-1)) hM d_Ki_markThoseBefore_18 (by decide) ?_
    refine x_icmp_eq (tgt := 102) hM d_Ki_markThoseBefore_19 (by decide) (fun q29 => ?_) (fun q29 => ?_)
    · replace F := F.1 q29
      exact x_return hM d_Ki_markThoseBefore_102 rfl F
    · replace F := F.2 q29
      refine x_iload_n hM d_Ki_markThoseBefore_22 rfl 2 rfl ?_
      refine x_callSN hG hM (r' := r_WP_stateOf) [.int v3] rfl yk_WP_stateOf ⟨Nat.le_of_ble_eq_true rfl, Nat.le_of_ble_eq_true rfl⟩ w_757 w_665 rfl rfl (Nat.le_of_ble_eq_true rfl) d_Ki_markThoseBefore_23 (sem_mono F ?_)
      intro u2 h1 F
      obtain ⟨x3, rfl, F⟩ := F
      refine x_istore (lv2 := [(5, .int x3), (0, .ref v0), (1, .ref v1), (3, .int v3), (4, .int v4)]) hM d_Ki_markThoseBefore_26 (Nat.le_of_ble_eq_true rfl) rfl ?_
      refine x_aload_n hM d_Ki_markThoseBefore_28 rfl 1 rfl ?_
      obtain ⟨c27, F⟩ := F
      obtain ⟨c28, F⟩ := F
      refine x_getr hG hM ck_Ki 2 (Nat.le_of_ble_eq_true rfl) rfl rfl w_325 rfl d_Ki_markThoseBefore_29 c27 c28 ?_
      refine x_iload hM d_Ki_markThoseBefore_32 0 rfl ?_
      obtain ⟨c25, F⟩ := F
      obtain ⟨c26, F⟩ := F
      refine x_iaload hG hM d_Ki_markThoseBefore_34 c25 c26 ?_
      refine x_istore (lv2 := [(6, .int (kI h1 (rf h1 v0 2) (Int32.toNatClampNeg x3))), (5, .int x3), (0, .ref v0), (1, .ref v1), (3, .int v3), (4, .int v4)]) hM d_Ki_markThoseBefore_35 (Nat.le_of_ble_eq_true rfl) rfl ?_
      refine x_aload_n hM d_Ki_markThoseBefore_37 rfl 2 rfl ?_
      obtain ⟨c23, F⟩ := F
      obtain ⟨c24, F⟩ := F
      refine x_getr hG hM ck_Ki 7 (Nat.le_of_ble_eq_true rfl) rfl rfl w_332 rfl d_Ki_markThoseBefore_38 c23 c24 ?_
      refine x_iload hM d_Ki_markThoseBefore_41 0 rfl ?_
      obtain ⟨c21, F⟩ := F
      obtain ⟨c22, F⟩ := F
      refine x_iaload hG hM d_Ki_markThoseBefore_43 c21 c22 ?_
      refine x_aload_n hM d_Ki_markThoseBefore_44 rfl 2 rfl ?_
      obtain ⟨c19, F⟩ := F
      obtain ⟨c20, F⟩ := F
      refine x_getr hG hM ck_Ki 6 (Nat.le_of_ble_eq_true rfl) rfl rfl w_331 rfl d_Ki_markThoseBefore_45 c19 c20 ?_
      refine x_iload hM d_Ki_markThoseBefore_48 0 rfl ?_
      obtain ⟨c17, F⟩ := F
      obtain ⟨c18, F⟩ := F
      refine x_iaload hG hM d_Ki_markThoseBefore_50 c17 c18 ?_
      refine x_isub hM d_Ki_markThoseBefore_51 ?_
      refine x_iconst (v := 1) hM d_Ki_markThoseBefore_52 (by decide) ?_
      refine x_icmp_le (tgt := 90) hM d_Ki_markThoseBefore_53 (by decide) (fun q16 => ?_) (fun q16 => ?_)
      · replace F := F.1 q16
        refine x_aload_n hM d_Ki_markThoseBefore_90 rfl 3 rfl ?_
        refine x_iload_n hM d_Ki_markThoseBefore_91 rfl 4 rfl ?_
        obtain ⟨c7, F⟩ := F
        refine x_callV hG hM (r' := r_Wo_nextInto) (ci := 1) [.int v3] rfl rfl (Nat.le_of_ble_eq_true rfl) yk_Wo_nextInto ⟨Nat.le_of_ble_eq_true rfl, Nat.le_of_ble_eq_true rfl⟩ w_763 w_675 w_676 rfl rfl (Nat.le_of_ble_eq_true rfl) d_Ki_markThoseBefore_92 c7 (sem_mono F ?_)
        intro u5 h4 F
        obtain ⟨x6, rfl, F⟩ := F
        refine x_istore_n (lv2 := [(3, .int x6), (6, .int (kI h1 (rf h1 v0 2) (Int32.toNatClampNeg x3))), (5, .int x3), (0, .ref v0), (1, .ref v1), (4, .int v4)]) hM d_Ki_markThoseBefore_95 rfl (Nat.le_of_ble_eq_true rfl) rfl ?_
        refine x_iinc (v := (v4 + 1)) (lv2 := [(4, .int (v4 + 1)), (3, .int x6), (6, .int (kI h1 (rf h1 v0 2) (Int32.toNatClampNeg x3))), (5, .int x3), (0, .ref v0), (1, .ref v1)]) hM d_Ki_markThoseBefore_96 (j := 5) rfl rfl (Nat.le_of_ble_eq_true rfl) rfl ?_
        refine x_goto (tgt := 10) hM d_Ki_markThoseBefore_99 (by decide) ?_
        refine x_sub [4, 5, 1, 0] rfl ?_
        exact F
      · replace F := F.2 q16
        refine x_aload_n hM d_Ki_markThoseBefore_56 rfl 2 rfl ?_
        obtain ⟨c14, F⟩ := F
        obtain ⟨c15, F⟩ := F
        refine x_getr hG hM ck_Ki 9 (Nat.le_of_ble_eq_true rfl) rfl rfl w_334 rfl d_Ki_markThoseBefore_57 c14 c15 ?_
        refine x_iload hM d_Ki_markThoseBefore_60 1 rfl ?_
        obtain ⟨c12, F⟩ := F
        obtain ⟨c13, F⟩ := F
        refine x_iaload hG hM d_Ki_markThoseBefore_62 c12 c13 ?_
        refine x_if_ne (tgt := 74) hM d_Ki_markThoseBefore_63 (by decide) (fun q11 => ?_) (fun q11 => ?_)
        · replace F := F.2 q11
          refine x_sub [2, 3, 4, 5, 1] rfl ?_
          exact F
        · replace F := F.1 q11
          refine x_aload_n hM d_Ki_markThoseBefore_66 rfl 2 rfl ?_
          refine x_iload hM d_Ki_markThoseBefore_67 1 rfl ?_
          refine x_iload hM d_Ki_markThoseBefore_69 0 rfl ?_
          obtain ⟨c10, F⟩ := F
          refine x_callV hG hM (r' := r_Ki_moveToChanged) (ci := 9) [.int x3, .int (kI h1 (rf h1 v0 2) (Int32.toNatClampNeg x3))] rfl rfl (Nat.le_of_ble_eq_true rfl) yk_Ki_moveToChanged ⟨Nat.le_of_ble_eq_true rfl, Nat.le_of_ble_eq_true rfl⟩ w_758 w_760 ws_Ki_moveToChanged rfl rfl (Nat.le_of_ble_eq_true rfl) d_Ki_markThoseBefore_71 c10 (sem_mono F ?_)
          intro u9 h8 F
          obtain ⟨rfl, F⟩ := F
          refine x_sub [2, 3, 4, 5, 1] rfl ?_
          exact F
set_option maxRecDepth 100000 in
set_option maxHeartbeats 4000000 in
theorem S_Ki_markThoseBefore_74 {G : Gc} {M : Mc} {Q : State → Prop} {K : Option Value → Hp → Prop} (hG : gok G) (hM : mok G M r_Ki_markThoseBefore Q K) (v0 : Nat) (v1 : Nat) (v3 : Int32) (v4 : Int32) (v5 : Int32) (h : Hp) (F : kT h v0 = 10 ∧ kR h v0 9 = some (rf h v0 9) ∧ (kT h (rf h v0 9) = 50 ∧ vp_in v5 (kN h (rf h v0 9)) ∧ (sem G r_WP_actOf [.int v3] h (fun u2 h1 => ∃ x3 : Int32, u2 = some (.int x3) ∧ (kT h1 (rf h v0 9) = 50 ∧ vp_in v5 (kN h1 (rf h v0 9)) ∧ (∀ h4 : Hp, h4 = wI h1 (rf h v0 9) (Int32.toNatClampNeg v5) ((kI h (rf h v0 9) (Int32.toNatClampNeg v5)) ||| (1 <<< (x3 &&& 31))) → (kT h4 v1 = 2 ∧ sem G r_Wo_nextInto [.ref v1, .int v3] h4 (fun u6 h5 => ∃ x7 : Int32, u6 = some (.int x7) ∧ X G M Q 10 [(0, .ref v0), (1, .ref v1), (3, .int x7), (4, .int (v4 + 1))] [] h5)))))))) : X G M Q 74 [(0, .ref v0), (1, .ref v1), (3, .int v3), (4, .int v4), (5, .int v5)] [] h := by
  refine x_aload_n hM d_Ki_markThoseBefore_74 rfl 0 rfl ?_
  obtain ⟨c13, F⟩ := F
  obtain ⟨c14, F⟩ := F
  refine x_getr hG hM ck_Ki 9 (Nat.le_of_ble_eq_true rfl) rfl rfl w_334 rfl d_Ki_markThoseBefore_75 c13 c14 ?_
  refine x_iload hM d_Ki_markThoseBefore_78 4 rfl ?_
  refine x_dup2 hM d_Ki_markThoseBefore_80 rfl rfl ?_
  obtain ⟨c11, F⟩ := F
  obtain ⟨c12, F⟩ := F
  refine x_iaload hG hM d_Ki_markThoseBefore_81 c11 c12 ?_
  refine x_iconst (v := 1) hM d_Ki_markThoseBefore_82 (by decide) ?_
  refine x_iload_n hM d_Ki_markThoseBefore_83 rfl 2 rfl ?_
  refine x_callSN hG hM (r' := r_WP_actOf) [.int v3] rfl yk_WP_actOf ⟨Nat.le_of_ble_eq_true rfl, Nat.le_of_ble_eq_true rfl⟩ w_762 w_672 rfl rfl (Nat.le_of_ble_eq_true rfl) d_Ki_markThoseBefore_84 (sem_mono F ?_)
  intro u2 h1 F
  obtain ⟨x3, rfl, F⟩ := F
  refine x_ishl hM d_Ki_markThoseBefore_87 ?_
  refine x_ior hM d_Ki_markThoseBefore_88 ?_
  obtain ⟨c9, F⟩ := F
  obtain ⟨c10, F⟩ := F
  obtain ⟨h4, eh4⟩ : ∃ z : Hp, z = wI h1 (rf h v0 9) (Int32.toNatClampNeg v5) ((kI h (rf h v0 9) (Int32.toNatClampNeg v5)) ||| (1 <<< (x3 &&& 31))) := ⟨_, rfl⟩
  replace F := F h4 eh4
  refine x_iastore hG hM d_Ki_markThoseBefore_89 c9 c10 ?_
  rw [← eh4]
  clear eh4
  refine x_aload_n hM d_Ki_markThoseBefore_90 rfl 1 rfl ?_
  refine x_iload_n hM d_Ki_markThoseBefore_91 rfl 2 rfl ?_
  obtain ⟨c8, F⟩ := F
  refine x_callV hG hM (r' := r_Wo_nextInto) (ci := 1) [.int v3] rfl rfl (Nat.le_of_ble_eq_true rfl) yk_Wo_nextInto ⟨Nat.le_of_ble_eq_true rfl, Nat.le_of_ble_eq_true rfl⟩ w_763 w_675 w_676 rfl rfl (Nat.le_of_ble_eq_true rfl) d_Ki_markThoseBefore_92 c8 (sem_mono F ?_)
  intro u6 h5 F
  obtain ⟨x7, rfl, F⟩ := F
  refine x_istore_n (lv2 := [(3, .int x7), (0, .ref v0), (1, .ref v1), (4, .int v4), (5, .int v5)]) hM d_Ki_markThoseBefore_95 rfl (Nat.le_of_ble_eq_true rfl) rfl ?_
  refine x_iinc (v := (v4 + 1)) (lv2 := [(4, .int (v4 + 1)), (3, .int x7), (0, .ref v0), (1, .ref v1), (5, .int v5)]) hM d_Ki_markThoseBefore_96 (j := 3) rfl rfl (Nat.le_of_ble_eq_true rfl) rfl ?_
  refine x_goto (tgt := 10) hM d_Ki_markThoseBefore_99 (by decide) ?_
  refine x_sub [2, 3, 1, 0] rfl ?_
  exact F
theorem d_Ki_moveToChanged_0 : decode b_Ki_moveToChanged 0 = .ok (.aload_n 0, 1) := by decide +kernel
theorem d_Ki_moveToChanged_1 : decode b_Ki_moveToChanged 1 = .ok (.getfield 32, 3) := by decide +kernel
theorem d_Ki_moveToChanged_4 : decode b_Ki_moveToChanged 4 = .ok (.iload_n 2, 1) := by decide +kernel
theorem d_Ki_moveToChanged_5 : decode b_Ki_moveToChanged 5 = .ok (.iaload, 1) := by decide +kernel
theorem d_Ki_moveToChanged_6 : decode b_Ki_moveToChanged 6 = .ok (.aload_n 0, 1) := by decide +kernel
theorem d_Ki_moveToChanged_7 : decode b_Ki_moveToChanged 7 = .ok (.getfield 38, 3) := by decide +kernel
theorem d_Ki_moveToChanged_10 : decode b_Ki_moveToChanged 10 = .ok (.iload_n 2, 1) := by decide +kernel
theorem d_Ki_moveToChanged_11 : decode b_Ki_moveToChanged 11 = .ok (.iaload, 1) := by decide +kernel
theorem d_Ki_moveToChanged_12 : decode b_Ki_moveToChanged 12 = .ok (.iadd, 1) := by decide +kernel
theorem d_Ki_moveToChanged_13 : decode b_Ki_moveToChanged 13 = .ok (.istore_n 3, 1) := by decide +kernel
theorem d_Ki_moveToChanged_14 : decode b_Ki_moveToChanged 14 = .ok (.aload_n 0, 1) := by decide +kernel
theorem d_Ki_moveToChanged_15 : decode b_Ki_moveToChanged 15 = .ok (.getfield 26, 3) := by decide +kernel
theorem d_Ki_moveToChanged_18 : decode b_Ki_moveToChanged 18 = .ok (.iload_n 3, 1) := by decide +kernel
theorem d_Ki_moveToChanged_19 : decode b_Ki_moveToChanged 19 = .ok (.iaload, 1) := by decide +kernel
theorem d_Ki_moveToChanged_20 : decode b_Ki_moveToChanged 20 = .ok (.istore 4, 2) := by decide +kernel
theorem d_Ki_moveToChanged_22 : decode b_Ki_moveToChanged 22 = .ok (.aload_n 0, 1) := by decide +kernel
theorem d_Ki_moveToChanged_23 : decode b_Ki_moveToChanged 23 = .ok (.getfield 26, 3) := by decide +kernel
theorem d_Ki_moveToChanged_26 : decode b_Ki_moveToChanged 26 = .ok (.aload_n 0, 1) := by decide +kernel
theorem d_Ki_moveToChanged_27 : decode b_Ki_moveToChanged 27 = .ok (.getfield 29, 3) := by decide +kernel
theorem d_Ki_moveToChanged_30 : decode b_Ki_moveToChanged 30 = .ok (.iload_n 1, 1) := by decide +kernel
theorem d_Ki_moveToChanged_31 : decode b_Ki_moveToChanged 31 = .ok (.iaload, 1) := by decide +kernel
theorem d_Ki_moveToChanged_32 : decode b_Ki_moveToChanged 32 = .ok (.iload 4, 2) := by decide +kernel
theorem d_Ki_moveToChanged_34 : decode b_Ki_moveToChanged 34 = .ok (.iastore, 1) := by decide +kernel
theorem d_Ki_moveToChanged_35 : decode b_Ki_moveToChanged 35 = .ok (.aload_n 0, 1) := by decide +kernel
theorem d_Ki_moveToChanged_36 : decode b_Ki_moveToChanged 36 = .ok (.getfield 29, 3) := by decide +kernel
theorem d_Ki_moveToChanged_39 : decode b_Ki_moveToChanged 39 = .ok (.iload 4, 2) := by decide +kernel
theorem d_Ki_moveToChanged_41 : decode b_Ki_moveToChanged 41 = .ok (.aload_n 0, 1) := by decide +kernel
theorem d_Ki_moveToChanged_42 : decode b_Ki_moveToChanged 42 = .ok (.getfield 29, 3) := by decide +kernel
theorem d_Ki_moveToChanged_45 : decode b_Ki_moveToChanged 45 = .ok (.iload_n 1, 1) := by decide +kernel
theorem d_Ki_moveToChanged_46 : decode b_Ki_moveToChanged 46 = .ok (.iaload, 1) := by decide +kernel
theorem d_Ki_moveToChanged_47 : decode b_Ki_moveToChanged 47 = .ok (.iastore, 1) := by decide +kernel
theorem d_Ki_moveToChanged_48 : decode b_Ki_moveToChanged 48 = .ok (.aload_n 0, 1) := by decide +kernel
theorem d_Ki_moveToChanged_49 : decode b_Ki_moveToChanged 49 = .ok (.getfield 26, 3) := by decide +kernel
theorem d_Ki_moveToChanged_52 : decode b_Ki_moveToChanged 52 = .ok (.iload_n 3, 1) := by decide +kernel
theorem d_Ki_moveToChanged_53 : decode b_Ki_moveToChanged 53 = .ok (.iload_n 1, 1) := by decide +kernel
theorem d_Ki_moveToChanged_54 : decode b_Ki_moveToChanged 54 = .ok (.iastore, 1) := by decide +kernel
theorem d_Ki_moveToChanged_55 : decode b_Ki_moveToChanged 55 = .ok (.aload_n 0, 1) := by decide +kernel
theorem d_Ki_moveToChanged_56 : decode b_Ki_moveToChanged 56 = .ok (.getfield 29, 3) := by decide +kernel
theorem d_Ki_moveToChanged_59 : decode b_Ki_moveToChanged 59 = .ok (.iload_n 1, 1) := by decide +kernel
theorem d_Ki_moveToChanged_60 : decode b_Ki_moveToChanged 60 = .ok (.iload_n 3, 1) := by decide +kernel
theorem d_Ki_moveToChanged_61 : decode b_Ki_moveToChanged 61 = .ok (.iastore, 1) := by decide +kernel
theorem d_Ki_moveToChanged_62 : decode b_Ki_moveToChanged 62 = .ok (.aload_n 0, 1) := by decide +kernel
theorem d_Ki_moveToChanged_63 : decode b_Ki_moveToChanged 63 = .ok (.getfield 38, 3) := by decide +kernel
theorem d_Ki_moveToChanged_66 : decode b_Ki_moveToChanged 66 = .ok (.iload_n 2, 1) := by decide +kernel
theorem d_Ki_moveToChanged_67 : decode b_Ki_moveToChanged 67 = .ok (.iaload, 1) := by decide +kernel
theorem d_Ki_moveToChanged_68 : decode b_Ki_moveToChanged 68 = .ok (.ifCond .ne 23, 3) := by decide +kernel
theorem d_Ki_moveToChanged_71 : decode b_Ki_moveToChanged 71 = .ok (.aload_n 0, 1) := by decide +kernel
theorem d_Ki_moveToChanged_72 : decode b_Ki_moveToChanged 72 = .ok (.getfield 44, 3) := by decide +kernel
theorem d_Ki_moveToChanged_75 : decode b_Ki_moveToChanged 75 = .ok (.aload_n 0, 1) := by decide +kernel
theorem d_Ki_moveToChanged_76 : decode b_Ki_moveToChanged 76 = .ok (.getfield 47, 3) := by decide +kernel
theorem d_Ki_moveToChanged_79 : decode b_Ki_moveToChanged 79 = .ok (.iload_n 2, 1) := by decide +kernel
theorem d_Ki_moveToChanged_80 : decode b_Ki_moveToChanged 80 = .ok (.iastore, 1) := by decide +kernel
theorem d_Ki_moveToChanged_81 : decode b_Ki_moveToChanged 81 = .ok (.aload_n 0, 1) := by decide +kernel
theorem d_Ki_moveToChanged_82 : decode b_Ki_moveToChanged 82 = .ok (.dup, 1) := by decide +kernel
theorem d_Ki_moveToChanged_83 : decode b_Ki_moveToChanged 83 = .ok (.getfield 47, 3) := by decide +kernel
theorem d_Ki_moveToChanged_86 : decode b_Ki_moveToChanged 86 = .ok (.iconst 1, 1) := by decide +kernel
theorem d_Ki_moveToChanged_87 : decode b_Ki_moveToChanged 87 = .ok (.iadd, 1) := by decide +kernel
theorem d_Ki_moveToChanged_88 : decode b_Ki_moveToChanged 88 = .ok (.putfield 47, 3) := by decide +kernel
theorem d_Ki_moveToChanged_91 : decode b_Ki_moveToChanged 91 = .ok (.aload_n 0, 1) := by decide +kernel
theorem d_Ki_moveToChanged_92 : decode b_Ki_moveToChanged 92 = .ok (.getfield 38, 3) := by decide +kernel
theorem d_Ki_moveToChanged_95 : decode b_Ki_moveToChanged 95 = .ok (.iload_n 2, 1) := by decide +kernel
theorem d_Ki_moveToChanged_96 : decode b_Ki_moveToChanged 96 = .ok (.dup2, 1) := by decide +kernel
theorem d_Ki_moveToChanged_97 : decode b_Ki_moveToChanged 97 = .ok (.iaload, 1) := by decide +kernel
theorem d_Ki_moveToChanged_98 : decode b_Ki_moveToChanged 98 = .ok (.iconst 1, 1) := by decide +kernel
theorem d_Ki_moveToChanged_99 : decode b_Ki_moveToChanged 99 = .ok (.iadd, 1) := by decide +kernel
theorem d_Ki_moveToChanged_100 : decode b_Ki_moveToChanged 100 = .ok (.iastore, 1) := by decide +kernel
theorem d_Ki_moveToChanged_101 : decode b_Ki_moveToChanged 101 = .ok (.return_, 1) := by decide +kernel
set_option maxRecDepth 100000 in
set_option maxHeartbeats 4000000 in
theorem S_Ki_moveToChanged_0 {G : Gc} {M : Mc} {Q : State → Prop} {K : Option Value → Hp → Prop} (hG : gok G) (hM : mok G M r_Ki_moveToChanged Q K) (v0 : Nat) (v1 : Int32) (v2 : Int32) (h : Hp) (F : kT h v0 = 10 ∧ kR h v0 6 = some (rf h v0 6) ∧ (kT h (rf h v0 6) = 50 ∧ vp_in v2 (kN h (rf h v0 6)) ∧ (kT h v0 = 10 ∧ kR h v0 8 = some (rf h v0 8) ∧ (kT h (rf h v0 8) = 50 ∧ vp_in v2 (kN h (rf h v0 8)) ∧ (kT h v0 = 10 ∧ kR h v0 4 = some (rf h v0 4) ∧ (kT h (rf h v0 4) = 50 ∧ vp_in ((kI h (rf h v0 6) (Int32.toNatClampNeg v2)) + (kI h (rf h v0 8) (Int32.toNatClampNeg v2))) (kN h (rf h v0 4)) ∧ (kT h v0 = 10 ∧ kR h v0 4 = some (rf h v0 4) ∧ (kT h v0 = 10 ∧ kR h v0 5 = some (rf h v0 5) ∧ (kT h (rf h v0 5) = 50 ∧ vp_in v1 (kN h (rf h v0 5)) ∧ (kT h (rf h v0 4) = 50 ∧ vp_in (kI h (rf h v0 5) (Int32.toNatClampNeg v1)) (kN h (rf h v0 4)) ∧ (∀ h1 : Hp, h1 = wI h (rf h v0 4) (Int32.toNatClampNeg (kI h (rf h v0 5) (Int32.toNatClampNeg v1))) (kI h (rf h v0 4) (Int32.toNatClampNeg ((kI h (rf h v0 6) (Int32.toNatClampNeg v2)) + (kI h (rf h v0 8) (Int32.toNatClampNeg v2))))) → (kT h1 v0 = 10 ∧ kR h1 v0 5 = some (rf h1 v0 5) ∧ (kT h1 v0 = 10 ∧ kR h1 v0 5 = some (rf h1 v0 5) ∧ (kT h1 (rf h1 v0 5) = 50 ∧ vp_in v1 (kN h1 (rf h1 v0 5)) ∧ (kT h1 (rf h1 v0 5) = 50 ∧ vp_in (kI h (rf h v0 4) (Int32.toNatClampNeg ((kI h (rf h v0 6) (Int32.toNatClampNeg v2)) + (kI h (rf h v0 8) (Int32.toNatClampNeg v2))))) (kN h1 (rf h1 v0 5)) ∧ (∀ h2 : Hp, h2 = wI h1 (rf h1 v0 5) (Int32.toNatClampNeg (kI h (rf h v0 4) (Int32.toNatClampNeg ((kI h (rf h v0 6) (Int32.toNatClampNeg v2)) + (kI h (rf h v0 8) (Int32.toNatClampNeg v2)))))) (kI h1 (rf h1 v0 5) (Int32.toNatClampNeg v1)) → (kT h2 v0 = 10 ∧ kR h2 v0 4 = some (rf h2 v0 4) ∧ (kT h2 (rf h2 v0 4) = 50 ∧ vp_in ((kI h (rf h v0 6) (Int32.toNatClampNeg v2)) + (kI h (rf h v0 8) (Int32.toNatClampNeg v2))) (kN h2 (rf h2 v0 4)) ∧ (∀ h3 : Hp, h3 = wI h2 (rf h2 v0 4) (Int32.toNatClampNeg ((kI h (rf h v0 6) (Int32.toNatClampNeg v2)) + (kI h (rf h v0 8) (Int32.toNatClampNeg v2)))) v1 → (kT h3 v0 = 10 ∧ kR h3 v0 5 = some (rf h3 v0 5) ∧ (kT h3 (rf h3 v0 5) = 50 ∧ vp_in v1 (kN h3 (rf h3 v0 5)) ∧ (∀ h4 : Hp, h4 = wI h3 (rf h3 v0 5) (Int32.toNatClampNeg v1) ((kI h (rf h v0 6) (Int32.toNatClampNeg v2)) + (kI h (rf h v0 8) (Int32.toNatClampNeg v2))) → (kT h4 v0 = 10 ∧ kR h4 v0 8 = some (rf h4 v0 8) ∧ (kT h4 (rf h4 v0 8) = 50 ∧ vp_in v2 (kN h4 (rf h4 v0 8)) ∧ (((kI h4 (rf h4 v0 8) (Int32.toNatClampNeg v2)) = 0 → (kT h4 v0 = 10 ∧ kR h4 v0 10 = some (rf h4 v0 10) ∧ (kT h4 v0 = 10 ∧ (kT h4 (rf h4 v0 10) = 50 ∧ vp_in (kI h4 v0 11) (kN h4 (rf h4 v0 10)) ∧ (∀ h12 : Hp, h12 = wI h4 (rf h4 v0 10) (Int32.toNatClampNeg (kI h4 v0 11)) v2 → (kT h12 v0 = 10 ∧ (kT h12 v0 = 10 ∧ (∀ h13 : Hp, h13 = wI h12 v0 11 ((kI h12 v0 11) + 1) → (kT h13 v0 = 10 ∧ kR h13 v0 8 = some (rf h13 v0 8) ∧ (kT h13 (rf h13 v0 8) = 50 ∧ vp_in v2 (kN h13 (rf h13 v0 8)) ∧ (kT h13 (rf h13 v0 8) = 50 ∧ vp_in v2 (kN h13 (rf h13 v0 8)) ∧ (∀ h14 : Hp, h14 = wI h13 (rf h13 v0 8) (Int32.toNatClampNeg v2) ((kI h13 (rf h13 v0 8) (Int32.toNatClampNeg v2)) + 1) → K none h14)))))))))))) ∧ (¬ (kI h4 (rf h4 v0 8) (Int32.toNatClampNeg v2)) = 0 → (kT h4 v0 = 10 ∧ kR h4 v0 8 = some (rf h4 v0 8) ∧ (kT h4 (rf h4 v0 8) = 50 ∧ vp_in v2 (kN h4 (rf h4 v0 8)) ∧ (kT h4 (rf h4 v0 8) = 50 ∧ vp_in v2 (kN h4 (rf h4 v0 8)) ∧ (∀ h5 : Hp, h5 = wI h4 (rf h4 v0 8) (Int32.toNatClampNeg v2) ((kI h4 (rf h4 v0 8) (Int32.toNatClampNeg v2)) + 1) → K none h5)))))))))))))))))))))))))))))) : X G M Q 0 [(0, .ref v0), (1, .int v1), (2, .int v2)] [] h := by
  refine x_aload_n hM d_Ki_moveToChanged_0 rfl 0 rfl ?_
  obtain ⟨c67, F⟩ := F
  obtain ⟨c68, F⟩ := F
  refine x_getr hG hM ck_Ki 6 (Nat.le_of_ble_eq_true rfl) rfl rfl w_331 rfl d_Ki_moveToChanged_1 c67 c68 ?_
  refine x_iload_n hM d_Ki_moveToChanged_4 rfl 2 rfl ?_
  obtain ⟨c65, F⟩ := F
  obtain ⟨c66, F⟩ := F
  refine x_iaload hG hM d_Ki_moveToChanged_5 c65 c66 ?_
  refine x_aload_n hM d_Ki_moveToChanged_6 rfl 0 rfl ?_
  obtain ⟨c63, F⟩ := F
  obtain ⟨c64, F⟩ := F
  refine x_getr hG hM ck_Ki 8 (Nat.le_of_ble_eq_true rfl) rfl rfl w_333 rfl d_Ki_moveToChanged_7 c63 c64 ?_
  refine x_iload_n hM d_Ki_moveToChanged_10 rfl 2 rfl ?_
  obtain ⟨c61, F⟩ := F
  obtain ⟨c62, F⟩ := F
  refine x_iaload hG hM d_Ki_moveToChanged_11 c61 c62 ?_
  refine x_iadd hM d_Ki_moveToChanged_12 ?_
  refine x_istore_n (lv2 := [(3, .int ((kI h (rf h v0 6) (Int32.toNatClampNeg v2)) + (kI h (rf h v0 8) (Int32.toNatClampNeg v2)))), (0, .ref v0), (1, .int v1), (2, .int v2)]) hM d_Ki_moveToChanged_13 rfl (Nat.le_of_ble_eq_true rfl) rfl ?_
  refine x_aload_n hM d_Ki_moveToChanged_14 rfl 1 rfl ?_
  obtain ⟨c59, F⟩ := F
  obtain ⟨c60, F⟩ := F
  refine x_getr hG hM ck_Ki 4 (Nat.le_of_ble_eq_true rfl) rfl rfl w_329 rfl d_Ki_moveToChanged_15 c59 c60 ?_
  refine x_iload_n hM d_Ki_moveToChanged_18 rfl 0 rfl ?_
  obtain ⟨c57, F⟩ := F
  obtain ⟨c58, F⟩ := F
  refine x_iaload hG hM d_Ki_moveToChanged_19 c57 c58 ?_
  refine x_istore (lv2 := [(4, .int (kI h (rf h v0 4) (Int32.toNatClampNeg ((kI h (rf h v0 6) (Int32.toNatClampNeg v2)) + (kI h (rf h v0 8) (Int32.toNatClampNeg v2)))))), (3, .int ((kI h (rf h v0 6) (Int32.toNatClampNeg v2)) + (kI h (rf h v0 8) (Int32.toNatClampNeg v2)))), (0, .ref v0), (1, .int v1), (2, .int v2)]) hM d_Ki_moveToChanged_20 (Nat.le_of_ble_eq_true rfl) rfl ?_
  refine x_aload_n hM d_Ki_moveToChanged_22 rfl 2 rfl ?_
  obtain ⟨c55, F⟩ := F
  obtain ⟨c56, F⟩ := F
  refine x_getr hG hM ck_Ki 4 (Nat.le_of_ble_eq_true rfl) rfl rfl w_329 rfl d_Ki_moveToChanged_23 c55 c56 ?_
  refine x_aload_n hM d_Ki_moveToChanged_26 rfl 2 rfl ?_
  obtain ⟨c53, F⟩ := F
  obtain ⟨c54, F⟩ := F
  refine x_getr hG hM ck_Ki 5 (Nat.le_of_ble_eq_true rfl) rfl rfl w_330 rfl d_Ki_moveToChanged_27 c53 c54 ?_
  refine x_iload_n hM d_Ki_moveToChanged_30 rfl 3 rfl ?_
  obtain ⟨c51, F⟩ := F
  obtain ⟨c52, F⟩ := F
  refine x_iaload hG hM d_Ki_moveToChanged_31 c51 c52 ?_
  refine x_iload hM d_Ki_moveToChanged_32 0 rfl ?_
  obtain ⟨c49, F⟩ := F
  obtain ⟨c50, F⟩ := F
  obtain ⟨h1, eh1⟩ : ∃ z : Hp, z = wI h (rf h v0 4) (Int32.toNatClampNeg (kI h (rf h v0 5) (Int32.toNatClampNeg v1))) (kI h (rf h v0 4) (Int32.toNatClampNeg ((kI h (rf h v0 6) (Int32.toNatClampNeg v2)) + (kI h (rf h v0 8) (Int32.toNatClampNeg v2))))) := ⟨_, rfl⟩
  replace F := F h1 eh1
  refine x_iastore hG hM d_Ki_moveToChanged_34 c49 c50 ?_
  rw [← eh1]
  clear eh1
  refine x_aload_n hM d_Ki_moveToChanged_35 rfl 2 rfl ?_
  obtain ⟨c47, F⟩ := F
  obtain ⟨c48, F⟩ := F
  refine x_getr hG hM ck_Ki 5 (Nat.le_of_ble_eq_true rfl) rfl rfl w_330 rfl d_Ki_moveToChanged_36 c47 c48 ?_
  refine x_iload hM d_Ki_moveToChanged_39 0 rfl ?_
  refine x_aload_n hM d_Ki_moveToChanged_41 rfl 2 rfl ?_
  obtain ⟨c45, F⟩ := F
  obtain ⟨c46, F⟩ := F
  refine x_getr hG hM ck_Ki 5 (Nat.le_of_ble_eq_true rfl) rfl rfl w_330 rfl d_Ki_moveToChanged_42 c45 c46 ?_
  refine x_iload_n hM d_Ki_moveToChanged_45 rfl 3 rfl ?_
  obtain ⟨c43, F⟩ := F
  obtain ⟨c44, F⟩ := F
  refine x_iaload hG hM d_Ki_moveToChanged_46 c43 c44 ?_
  obtain ⟨c41, F⟩ := F
  obtain ⟨c42, F⟩ := F
  obtain ⟨h2, eh2⟩ : ∃ z : Hp, z = wI h1 (rf h1 v0 5) (Int32.toNatClampNeg (kI h (rf h v0 4) (Int32.toNatClampNeg ((kI h (rf h v0 6) (Int32.toNatClampNeg v2)) + (kI h (rf h v0 8) (Int32.toNatClampNeg v2)))))) (kI h1 (rf h1 v0 5) (Int32.toNatClampNeg v1)) := ⟨_, rfl⟩
  replace F := F h2 eh2
  refine x_iastore hG hM d_Ki_moveToChanged_47 c41 c42 ?_
  rw [← eh2]
  clear eh2
  refine x_aload_n hM d_Ki_moveToChanged_48 rfl 2 rfl ?_
  obtain ⟨c39, F⟩ := F
  obtain ⟨c40, F⟩ := F
  refine x_getr hG hM ck_Ki 4 (Nat.le_of_ble_eq_true rfl) rfl rfl w_329 rfl d_Ki_moveToChanged_49 c39 c40 ?_
  refine x_iload_n hM d_Ki_moveToChanged_52 rfl 1 rfl ?_
  refine x_iload_n hM d_Ki_moveToChanged_53 rfl 3 rfl ?_
  obtain ⟨c37, F⟩ := F
  obtain ⟨c38, F⟩ := F
  obtain ⟨h3, eh3⟩ : ∃ z : Hp, z = wI h2 (rf h2 v0 4) (Int32.toNatClampNeg ((kI h (rf h v0 6) (Int32.toNatClampNeg v2)) + (kI h (rf h v0 8) (Int32.toNatClampNeg v2)))) v1 := ⟨_, rfl⟩
  replace F := F h3 eh3
  refine x_iastore hG hM d_Ki_moveToChanged_54 c37 c38 ?_
  rw [← eh3]
  clear eh3
  refine x_aload_n hM d_Ki_moveToChanged_55 rfl 2 rfl ?_
  obtain ⟨c35, F⟩ := F
  obtain ⟨c36, F⟩ := F
  refine x_getr hG hM ck_Ki 5 (Nat.le_of_ble_eq_true rfl) rfl rfl w_330 rfl d_Ki_moveToChanged_56 c35 c36 ?_
  refine x_iload_n hM d_Ki_moveToChanged_59 rfl 3 rfl ?_
  refine x_iload_n hM d_Ki_moveToChanged_60 rfl 1 rfl ?_
  obtain ⟨c33, F⟩ := F
  obtain ⟨c34, F⟩ := F
  obtain ⟨h4, eh4⟩ : ∃ z : Hp, z = wI h3 (rf h3 v0 5) (Int32.toNatClampNeg v1) ((kI h (rf h v0 6) (Int32.toNatClampNeg v2)) + (kI h (rf h v0 8) (Int32.toNatClampNeg v2))) := ⟨_, rfl⟩
  replace F := F h4 eh4
  refine x_iastore hG hM d_Ki_moveToChanged_61 c33 c34 ?_
  rw [← eh4]
  clear eh4
  refine x_aload_n hM d_Ki_moveToChanged_62 rfl 2 rfl ?_
  obtain ⟨c31, F⟩ := F
  obtain ⟨c32, F⟩ := F
  refine x_getr hG hM ck_Ki 8 (Nat.le_of_ble_eq_true rfl) rfl rfl w_333 rfl d_Ki_moveToChanged_63 c31 c32 ?_
  refine x_iload_n hM d_Ki_moveToChanged_66 rfl 4 rfl ?_
  obtain ⟨c29, F⟩ := F
  obtain ⟨c30, F⟩ := F
  refine x_iaload hG hM d_Ki_moveToChanged_67 c29 c30 ?_
  refine x_if_ne (tgt := 91) hM d_Ki_moveToChanged_68 (by decide) (fun q28 => ?_) (fun q28 => ?_)
  · replace F := F.2 q28
    refine x_aload_n hM d_Ki_moveToChanged_91 rfl 2 rfl ?_
    obtain ⟨c10, F⟩ := F
    obtain ⟨c11, F⟩ := F
    refine x_getr hG hM ck_Ki 8 (Nat.le_of_ble_eq_true rfl) rfl rfl w_333 rfl d_Ki_moveToChanged_92 c10 c11 ?_
    refine x_iload_n hM d_Ki_moveToChanged_95 rfl 4 rfl ?_
    refine x_dup2 hM d_Ki_moveToChanged_96 rfl rfl ?_
    obtain ⟨c8, F⟩ := F
    obtain ⟨c9, F⟩ := F
    refine x_iaload hG hM d_Ki_moveToChanged_97 c8 c9 ?_
    refine x_iconst (v := 1) hM d_Ki_moveToChanged_98 (by decide) ?_
    refine x_iadd hM d_Ki_moveToChanged_99 ?_
    obtain ⟨c6, F⟩ := F
    obtain ⟨c7, F⟩ := F
    obtain ⟨h5, eh5⟩ : ∃ z : Hp, z = wI h4 (rf h4 v0 8) (Int32.toNatClampNeg v2) ((kI h4 (rf h4 v0 8) (Int32.toNatClampNeg v2)) + 1) := ⟨_, rfl⟩
    replace F := F h5 eh5
    refine x_iastore hG hM d_Ki_moveToChanged_100 c6 c7 ?_
    rw [← eh5]
    clear eh5
    exact x_return hM d_Ki_moveToChanged_101 rfl F
  · replace F := F.1 q28
    refine x_aload_n hM d_Ki_moveToChanged_71 rfl 2 rfl ?_
    obtain ⟨c26, F⟩ := F
    obtain ⟨c27, F⟩ := F
    refine x_getr hG hM ck_Ki 10 (Nat.le_of_ble_eq_true rfl) rfl rfl w_335 rfl d_Ki_moveToChanged_72 c26 c27 ?_
    refine x_aload_n hM d_Ki_moveToChanged_75 rfl 2 rfl ?_
    obtain ⟨c25, F⟩ := F
    refine x_geti hG hM ck_Ki 11 (Nat.le_of_ble_eq_true rfl) rfl rfl w_336 rfl d_Ki_moveToChanged_76 c25 ?_
    refine x_iload_n hM d_Ki_moveToChanged_79 rfl 4 rfl ?_
    obtain ⟨c23, F⟩ := F
    obtain ⟨c24, F⟩ := F
    obtain ⟨h12, eh12⟩ : ∃ z : Hp, z = wI h4 (rf h4 v0 10) (Int32.toNatClampNeg (kI h4 v0 11)) v2 := ⟨_, rfl⟩
    replace F := F h12 eh12
    refine x_iastore hG hM d_Ki_moveToChanged_80 c23 c24 ?_
    rw [← eh12]
    clear eh12
    refine x_aload_n hM d_Ki_moveToChanged_81 rfl 2 rfl ?_
    refine x_dup hM d_Ki_moveToChanged_82 rfl ?_
    obtain ⟨c22, F⟩ := F
    refine x_geti hG hM ck_Ki 11 (Nat.le_of_ble_eq_true rfl) rfl rfl w_336 rfl d_Ki_moveToChanged_83 c22 ?_
    refine x_iconst (v := 1) hM d_Ki_moveToChanged_86 (by decide) ?_
    refine x_iadd hM d_Ki_moveToChanged_87 ?_
    obtain ⟨c21, F⟩ := F
    obtain ⟨h13, eh13⟩ : ∃ z : Hp, z = wI h12 v0 11 ((kI h12 v0 11) + 1) := ⟨_, rfl⟩
    replace F := F h13 eh13
    refine x_puti hG hM ck_Ki 11 (Nat.le_of_ble_eq_true rfl) rfl rfl w_336 rfl d_Ki_moveToChanged_88 (Or.inl rfl) c21 ?_
    rw [← eh13]
    clear eh13
    refine x_aload_n hM d_Ki_moveToChanged_91 rfl 2 rfl ?_
    obtain ⟨c19, F⟩ := F
    obtain ⟨c20, F⟩ := F
    refine x_getr hG hM ck_Ki 8 (Nat.le_of_ble_eq_true rfl) rfl rfl w_333 rfl d_Ki_moveToChanged_92 c19 c20 ?_
    refine x_iload_n hM d_Ki_moveToChanged_95 rfl 4 rfl ?_
    refine x_dup2 hM d_Ki_moveToChanged_96 rfl rfl ?_
    obtain ⟨c17, F⟩ := F
    obtain ⟨c18, F⟩ := F
    refine x_iaload hG hM d_Ki_moveToChanged_97 c17 c18 ?_
    refine x_iconst (v := 1) hM d_Ki_moveToChanged_98 (by decide) ?_
    refine x_iadd hM d_Ki_moveToChanged_99 ?_
    obtain ⟨c15, F⟩ := F
    obtain ⟨c16, F⟩ := F
    obtain ⟨h14, eh14⟩ : ∃ z : Hp, z = wI h13 (rf h13 v0 8) (Int32.toNatClampNeg v2) ((kI h13 (rf h13 v0 8) (Int32.toNatClampNeg v2)) + 1) := ⟨_, rfl⟩
    replace F := F h14 eh14
    refine x_iastore hG hM d_Ki_moveToChanged_100 c15 c16 ?_
    rw [← eh14]
    clear eh14
    exact x_return hM d_Ki_moveToChanged_101 rfl F
theorem d_Ki_findLeast_0 : decode b_Ki_findLeast 0 = .ok (.aload_n 0, 1) := by decide +kernel
theorem d_Ki_findLeast_1 : decode b_Ki_findLeast 1 = .ok (.getfield 23, 3) := by decide +kernel
theorem d_Ki_findLeast_4 : decode b_Ki_findLeast 4 = .ok (.iconst 0, 1) := by decide +kernel
theorem d_Ki_findLeast_5 : decode b_Ki_findLeast 5 = .ok (.aload_n 0, 1) := by decide +kernel
theorem d_Ki_findLeast_6 : decode b_Ki_findLeast 6 = .ok (.getfield 9, 3) := by decide +kernel
theorem d_Ki_findLeast_9 : decode b_Ki_findLeast 9 = .ok (.iconst (-1), 1) := by decide +kernel
theorem d_Ki_findLeast_10 : decode b_Ki_findLeast 10 = .ok (.invokestatic 122, 3) := by decide +kernel
theorem d_Ki_findLeast_13 : decode b_Ki_findLeast 13 = .ok (.iconst 0, 1) := by decide +kernel
theorem d_Ki_findLeast_14 : decode b_Ki_findLeast 14 = .ok (.istore_n 2, 1) := by decide +kernel
theorem d_Ki_findLeast_15 : decode b_Ki_findLeast 15 = .ok (.iload_n 2, 1) := by decide +kernel
theorem d_Ki_findLeast_16 : decode b_Ki_findLeast 16 = .ok (.iload_n 1, 1) := by decide +kernel
theorem d_Ki_findLeast_17 : decode b_Ki_findLeast 17 = .ok (.if_icmp .ge 36, 3) := by decide +kernel
theorem d_Ki_findLeast_20 : decode b_Ki_findLeast 20 = .ok (.aload_n 0, 1) := by decide +kernel
theorem d_Ki_findLeast_21 : decode b_Ki_findLeast 21 = .ok (.getfield 23, 3) := by decide +kernel
theorem d_Ki_findLeast_24 : decode b_Ki_findLeast 24 = .ok (.aload_n 0, 1) := by decide +kernel
theorem d_Ki_findLeast_25 : decode b_Ki_findLeast 25 = .ok (.getfield 19, 3) := by decide +kernel
theorem d_Ki_findLeast_28 : decode b_Ki_findLeast 28 = .ok (.iload_n 2, 1) := by decide +kernel
theorem d_Ki_findLeast_29 : decode b_Ki_findLeast 29 = .ok (.iaload, 1) := by decide +kernel
theorem d_Ki_findLeast_30 : decode b_Ki_findLeast 30 = .ok (.iaload, 1) := by decide +kernel
theorem d_Ki_findLeast_31 : decode b_Ki_findLeast 31 = .ok (.iconst (-1), 1) := by decide +kernel
theorem d_Ki_findLeast_32 : decode b_Ki_findLeast 32 = .ok (.if_icmp .ne 15, 3) := by decide +kernel
theorem d_Ki_findLeast_35 : decode b_Ki_findLeast 35 = .ok (.aload_n 0, 1) := by decide +kernel
theorem d_Ki_findLeast_36 : decode b_Ki_findLeast 36 = .ok (.getfield 23, 3) := by decide +kernel
theorem d_Ki_findLeast_39 : decode b_Ki_findLeast 39 = .ok (.aload_n 0, 1) := by decide +kernel
theorem d_Ki_findLeast_40 : decode b_Ki_findLeast 40 = .ok (.getfield 19, 3) := by decide +kernel
theorem d_Ki_findLeast_43 : decode b_Ki_findLeast 43 = .ok (.iload_n 2, 1) := by decide +kernel
theorem d_Ki_findLeast_44 : decode b_Ki_findLeast 44 = .ok (.iaload, 1) := by decide +kernel
theorem d_Ki_findLeast_45 : decode b_Ki_findLeast 45 = .ok (.iload_n 2, 1) := by decide +kernel
theorem d_Ki_findLeast_46 : decode b_Ki_findLeast 46 = .ok (.iastore, 1) := by decide +kernel
theorem d_Ki_findLeast_47 : decode b_Ki_findLeast 47 = .ok (.iinc 2 1, 3) := by decide +kernel
theorem d_Ki_findLeast_50 : decode b_Ki_findLeast 50 = .ok (.goto (-35), 3) := by decide +kernel
theorem d_Ki_findLeast_53 : decode b_Ki_findLeast 53 = .ok (.return_, 1) := by decide +kernel
set_option maxRecDepth 100000 in
set_option maxHeartbeats 4000000 in
theorem S_Ki_findLeast_0 {G : Gc} {M : Mc} {Q : State → Prop} {K : Option Value → Hp → Prop} (hG : gok G) (hM : mok G M r_Ki_findLeast Q K) (v0 : Nat) (v1 : Int32) (h : Hp) (F : kT h v0 = 10 ∧ kR h v0 3 = some (rf h v0 3) ∧ (kT h v0 = 10 ∧ (sem G r_Ar_fill [.ref (rf h v0 3), .int 0, .int (kI h v0 0), .int (-1)] h (fun u2 h1 => u2 = none ∧ X G M Q 15 [(0, .ref v0), (1, .int v1), (2, .int 0)] [] h1)))) : X G M Q 0 [(0, .ref v0), (1, .int v1)] [] h := by
  refine x_aload_n hM d_Ki_findLeast_0 rfl 0 rfl ?_
  obtain ⟨c4, F⟩ := F
  obtain ⟨c5, F⟩ := F
  refine x_getr hG hM ck_Ki 3 (Nat.le_of_ble_eq_true rfl) rfl rfl w_327 rfl d_Ki_findLeast_1 c4 c5 ?_
  refine x_iconst (v := 0) hM d_Ki_findLeast_4 (by decide) ?_
  refine x_aload_n hM d_Ki_findLeast_5 rfl 0 rfl ?_
  obtain ⟨c3, F⟩ := F
  refine x_geti hG hM ck_Ki 0 (Nat.le_of_ble_eq_true rfl) rfl rfl w_321 rfl d_Ki_findLeast_6 c3 ?_
  refine x_iconst (v := (-1)) hM d_Ki_findLeast_9 (by decide) ?_
  refine x_callS hG hM (r' := r_Ar_fill) [.ref (rf h v0 3), .int 0, .int (kI h v0 0), .int (-1)] rfl yk_Ar_fill ⟨Nat.le_of_ble_eq_true rfl, Nat.le_of_ble_eq_true rfl⟩ w_727 w_604 rfl rfl (Nat.le_of_ble_eq_true rfl) d_Ki_findLeast_10 (sem_mono F ?_)
  intro u2 h1 F
  obtain ⟨rfl, F⟩ := F
  refine x_iconst (v := 0) hM d_Ki_findLeast_13 (by decide) ?_
  refine x_istore_n (lv2 := [(2, .int 0), (0, .ref v0), (1, .int v1)]) hM d_Ki_findLeast_14 rfl (Nat.le_of_ble_eq_true rfl) rfl ?_
  refine x_sub [1, 2, 0] rfl ?_
  exact F
set_option maxRecDepth 100000 in
set_option maxHeartbeats 4000000 in
theorem S_Ki_findLeast_15 {G : Gc} {M : Mc} {Q : State → Prop} {K : Option Value → Hp → Prop} (hG : gok G) (hM : mok G M r_Ki_findLeast Q K) (v0 : Nat) (v1 : Int32) (v2 : Int32) (h : Hp) (F : (v1 ≤ v2 → K none h) ∧ (¬ v1 ≤ v2 → (kT h v0 = 10 ∧ kR h v0 3 = some (rf h v0 3) ∧ (kT h v0 = 10 ∧ kR h v0 2 = some (rf h v0 2) ∧ (kT h (rf h v0 2) = 50 ∧ vp_in v2 (kN h (rf h v0 2)) ∧ (kT h (rf h v0 3) = 50 ∧ vp_in (kI h (rf h v0 2) (Int32.toNatClampNeg v2)) (kN h (rf h v0 3)) ∧ (((kI h (rf h v0 3) (Int32.toNatClampNeg (kI h (rf h v0 2) (Int32.toNatClampNeg v2)))) = (-1) → (kT h v0 = 10 ∧ kR h v0 3 = some (rf h v0 3) ∧ (kT h v0 = 10 ∧ kR h v0 2 = some (rf h v0 2) ∧ (kT h (rf h v0 2) = 50 ∧ vp_in v2 (kN h (rf h v0 2)) ∧ (kT h (rf h v0 3) = 50 ∧ vp_in (kI h (rf h v0 2) (Int32.toNatClampNeg v2)) (kN h (rf h v0 3)) ∧ (∀ h1 : Hp, h1 = wI h (rf h v0 3) (Int32.toNatClampNeg (kI h (rf h v0 2) (Int32.toNatClampNeg v2))) v2 → X G M Q 15 [(0, .ref v0), (1, .int v1), (2, .int (v2 + 1))] [] h1)))))) ∧ (¬ (kI h (rf h v0 3) (Int32.toNatClampNeg (kI h (rf h v0 2) (Int32.toNatClampNeg v2)))) = (-1) → X G M Q 15 [(0, .ref v0), (1, .int v1), (2, .int (v2 + 1))] [] h)))))))) : X G M Q 15 [(0, .ref v0), (1, .int v1), (2, .int v2)] [] h := by
  refine x_iload_n hM d_Ki_findLeast_15 rfl 2 rfl ?_
  refine x_iload_n hM d_Ki_findLeast_16 rfl 1 rfl ?_
  refine x_icmp_ge (tgt := 53) hM d_Ki_findLeast_17 (by decide) (fun q19 => ?_) (fun q19 => ?_)
  · replace F := F.1 q19
    exact x_return hM d_Ki_findLeast_53 rfl F
  · replace F := F.2 q19
    refine x_aload_n hM d_Ki_findLeast_20 rfl 0 rfl ?_
    obtain ⟨c17, F⟩ := F
    obtain ⟨c18, F⟩ := F
    refine x_getr hG hM ck_Ki 3 (Nat.le_of_ble_eq_true rfl) rfl rfl w_327 rfl d_Ki_findLeast_21 c17 c18 ?_
    refine x_aload_n hM d_Ki_findLeast_24 rfl 0 rfl ?_
    obtain ⟨c15, F⟩ := F
    obtain ⟨c16, F⟩ := F
    refine x_getr hG hM ck_Ki 2 (Nat.le_of_ble_eq_true rfl) rfl rfl w_325 rfl d_Ki_findLeast_25 c15 c16 ?_
    refine x_iload_n hM d_Ki_findLeast_28 rfl 2 rfl ?_
    obtain ⟨c13, F⟩ := F
    obtain ⟨c14, F⟩ := F
    refine x_iaload hG hM d_Ki_findLeast_29 c13 c14 ?_
    obtain ⟨c11, F⟩ := F
    obtain ⟨c12, F⟩ := F
    refine x_iaload hG hM d_Ki_findLeast_30 c11 c12 ?_
    refine x_iconst (v := (-1)) hM d_Ki_findLeast_31 (by decide) ?_
    refine x_icmp_ne (tgt := 47) hM d_Ki_findLeast_32 (by decide) (fun q10 => ?_) (fun q10 => ?_)
    · replace F := F.2 q10
      refine x_iinc (v := (v2 + 1)) (lv2 := [(2, .int (v2 + 1)), (0, .ref v0), (1, .int v1)]) hM d_Ki_findLeast_47 (j := 2) rfl rfl (Nat.le_of_ble_eq_true rfl) rfl ?_
      refine x_goto (tgt := 15) hM d_Ki_findLeast_50 (by decide) ?_
      refine x_sub [1, 2, 0] rfl ?_
      exact F
    · replace F := F.1 q10
      refine x_aload_n hM d_Ki_findLeast_35 rfl 0 rfl ?_
      obtain ⟨c8, F⟩ := F
      obtain ⟨c9, F⟩ := F
      refine x_getr hG hM ck_Ki 3 (Nat.le_of_ble_eq_true rfl) rfl rfl w_327 rfl d_Ki_findLeast_36 c8 c9 ?_
      refine x_aload_n hM d_Ki_findLeast_39 rfl 0 rfl ?_
      obtain ⟨c6, F⟩ := F
      obtain ⟨c7, F⟩ := F
      refine x_getr hG hM ck_Ki 2 (Nat.le_of_ble_eq_true rfl) rfl rfl w_325 rfl d_Ki_findLeast_40 c6 c7 ?_
      refine x_iload_n hM d_Ki_findLeast_43 rfl 2 rfl ?_
      obtain ⟨c4, F⟩ := F
      obtain ⟨c5, F⟩ := F
      refine x_iaload hG hM d_Ki_findLeast_44 c4 c5 ?_
      refine x_iload_n hM d_Ki_findLeast_45 rfl 2 rfl ?_
      obtain ⟨c2, F⟩ := F
      obtain ⟨c3, F⟩ := F
      obtain ⟨h1, eh1⟩ : ∃ z : Hp, z = wI h (rf h v0 3) (Int32.toNatClampNeg (kI h (rf h v0 2) (Int32.toNatClampNeg v2))) v2 := ⟨_, rfl⟩
      replace F := F h1 eh1
      refine x_iastore hG hM d_Ki_findLeast_46 c2 c3 ?_
      rw [← eh1]
      clear eh1
      refine x_iinc (v := (v2 + 1)) (lv2 := [(2, .int (v2 + 1)), (0, .ref v0), (1, .int v1)]) hM d_Ki_findLeast_47 (j := 2) rfl rfl (Nat.le_of_ble_eq_true rfl) rfl ?_
      refine x_goto (tgt := 15) hM d_Ki_findLeast_50 (by decide) ?_
      refine x_sub [1, 2, 0] rfl ?_
      exact F
