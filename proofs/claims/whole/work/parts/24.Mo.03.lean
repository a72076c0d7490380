theorem d_Mo_leads_0 : decode b_Mo_leads 0 = .ok (.aload_n 0, 1) := by decide +kernel
theorem d_Mo_leads_1 : decode b_Mo_leads 1 = .ok (.iload_n 1, 1) := by decide +kernel
theorem d_Mo_leads_2 : decode b_Mo_leads 2 = .ok (.invokevirtual 126, 3) := by decide +kernel
theorem d_Mo_leads_5 : decode b_Mo_leads 5 = .ok (.ifCond .eq 27, 3) := by decide +kernel
theorem d_Mo_leads_8 : decode b_Mo_leads 8 = .ok (.aload_n 0, 1) := by decide +kernel
theorem d_Mo_leads_9 : decode b_Mo_leads 9 = .ok (.iload_n 2, 1) := by decide +kernel
theorem d_Mo_leads_10 : decode b_Mo_leads 10 = .ok (.invokevirtual 130, 3) := by decide +kernel
theorem d_Mo_leads_13 : decode b_Mo_leads 13 = .ok (.ifCond .eq 19, 3) := by decide +kernel
theorem d_Mo_leads_16 : decode b_Mo_leads 16 = .ok (.iload_n 3, 1) := by decide +kernel
theorem d_Mo_leads_17 : decode b_Mo_leads 17 = .ok (.iconst 0, 1) := by decide +kernel
theorem d_Mo_leads_18 : decode b_Mo_leads 18 = .ok (.aload_n 0, 1) := by decide +kernel
theorem d_Mo_leads_19 : decode b_Mo_leads 19 = .ok (.getfield 13, 3) := by decide +kernel
theorem d_Mo_leads_22 : decode b_Mo_leads 22 = .ok (.iload_n 2, 1) := by decide +kernel
theorem d_Mo_leads_23 : decode b_Mo_leads 23 = .ok (.iaload, 1) := by decide +kernel
theorem d_Mo_leads_24 : decode b_Mo_leads 24 = .ok (.iconst 1, 1) := by decide +kernel
theorem d_Mo_leads_25 : decode b_Mo_leads 25 = .ok (.isub, 1) := by decide +kernel
theorem d_Mo_leads_26 : decode b_Mo_leads 26 = .ok (.invokestatic 118, 3) := by decide +kernel
theorem d_Mo_leads_29 : decode b_Mo_leads 29 = .ok (.ifCond .ne 6, 3) := by decide +kernel
theorem d_Mo_leads_32 : decode b_Mo_leads 32 = .ok (.bipush (-2), 2) := by decide +kernel
theorem d_Mo_leads_34 : decode b_Mo_leads 34 = .ok (.ireturn, 1) := by decide +kernel
theorem d_Mo_leads_35 : decode b_Mo_leads 35 = .ok (.aload_n 0, 1) := by decide +kernel
theorem d_Mo_leads_36 : decode b_Mo_leads 36 = .ok (.iload_n 1, 1) := by decide +kernel
theorem d_Mo_leads_37 : decode b_Mo_leads 37 = .ok (.invokevirtual 146, 3) := by decide +kernel
theorem d_Mo_leads_40 : decode b_Mo_leads 40 = .ok (.aload_n 0, 1) := by decide +kernel
theorem d_Mo_leads_41 : decode b_Mo_leads 41 = .ok (.iload_n 2, 1) := by decide +kernel
theorem d_Mo_leads_42 : decode b_Mo_leads 42 = .ok (.invokevirtual 150, 3) := by decide +kernel
theorem d_Mo_leads_45 : decode b_Mo_leads 45 = .ok (.ifCond .eq 15, 3) := by decide +kernel
theorem d_Mo_leads_48 : decode b_Mo_leads 48 = .ok (.aload_n 0, 1) := by decide +kernel
theorem d_Mo_leads_49 : decode b_Mo_leads 49 = .ok (.iconst 3, 1) := by decide +kernel
theorem d_Mo_leads_50 : decode b_Mo_leads 50 = .ok (.iload_n 2, 1) := by decide +kernel
theorem d_Mo_leads_51 : decode b_Mo_leads 51 = .ok (.imul, 1) := by decide +kernel
theorem d_Mo_leads_52 : decode b_Mo_leads 52 = .ok (.iload_n 3, 1) := by decide +kernel
theorem d_Mo_leads_53 : decode b_Mo_leads 53 = .ok (.iadd, 1) := by decide +kernel
theorem d_Mo_leads_54 : decode b_Mo_leads 54 = .ok (.invokevirtual 153, 3) := by decide +kernel
theorem d_Mo_leads_57 : decode b_Mo_leads 57 = .ok (.goto 4, 3) := by decide +kernel
theorem d_Mo_leads_60 : decode b_Mo_leads 60 = .ok (.iconst (-1), 1) := by decide +kernel
theorem d_Mo_leads_61 : decode b_Mo_leads 61 = .ok (.ireturn, 1) := by decide +kernel
set_option maxRecDepth 100000 in
set_option maxHeartbeats 4000000 in
theorem S_Mo_leads_0 {G : Gc} {M : Mc} {Q : State → Prop} {K : Option Value → Hp → Prop} (hG : gok G) (hM : mok G M r_Mo_leads Q K) (v0 : Nat) (v1 : Int32) (v2 : Int32) (v3 : Int32) (h : Hp) (F : kT h v0 = 12 ∧ sem G r_Mo_isState [.ref v0, .int v1] h (fun u2 h1 => ∃ x3 : Int32, u2 = some (.int x3) ∧ ((x3 = 0 → K (some (.int (-2))) h1) ∧ (¬ x3 = 0 → (kT h1 v0 = 12 ∧ sem G r_Mo_isAct [.ref v0, .int v2] h1 (fun u5 h4 => ∃ x6 : Int32, u5 = some (.int x6) ∧ ((x6 = 0 → K (some (.int (-2))) h4) ∧ (¬ x6 = 0 → (kT h4 v0 = 12 ∧ kR h4 v0 4 = some (rf h4 v0 4) ∧ (kT h4 (rf h4 v0 4) = 50 ∧ vp_in v2 (kN h4 (rf h4 v0 4)) ∧ (sem G r_Mo_isIn [.int v3, .int 0, .int ((kI h4 (rf h4 v0 4) (Int32.toNatClampNeg v2)) - 1)] h4 (fun u8 h7 => ∃ x9 : Int32, u8 = some (.int x9) ∧ ((x9 = 0 → K (some (.int (-2))) h7) ∧ (¬ x9 = 0 → (kT h7 v0 = 12 ∧ sem G r_Mo_open [.ref v0, .int v1] h7 (fun u11 h10 => u11 = none ∧ (kT h10 v0 = 12 ∧ sem G r_Mo_hold [.ref v0, .int v2] h10 (fun u13 h12 => ∃ x14 : Int32, u13 = some (.int x14) ∧ ((x14 = 0 → K (some (.int (-1))) h12) ∧ (¬ x14 = 0 → (kT h12 v0 = 12 ∧ sem G r_Mo_goes [.ref v0, .int ((3 * v2) + v3)] h12 (fun u16 h15 => ∃ x17 : Int32, u16 = some (.int x17) ∧ K (some (.int x17)) h15)))))))))))))))))))))) : X G M Q 0 [(0, .ref v0), (1, .int v1), (2, .int v2), (3, .int v3)] [] h := by
  refine x_aload_n hM d_Mo_leads_0 rfl 0 rfl ?_
  refine x_iload_n hM d_Mo_leads_1 rfl 1 rfl ?_
  obtain ⟨c30, F⟩ := F
  refine x_callV hG hM (r' := r_Mo_isState) (ci := 11) [.int v1] rfl rfl (Nat.le_of_ble_eq_true rfl) yk_Mo_isState ⟨Nat.le_of_ble_eq_true rfl, Nat.le_of_ble_eq_true rfl⟩ w_1028 w_1030 ws_Mo_isState rfl rfl (Nat.le_of_ble_eq_true rfl) d_Mo_leads_2 c30 (sem_mono F ?_)
  intro u2 h1 F
  obtain ⟨x3, rfl, F⟩ := F
  refine x_if_eq (tgt := 32) hM d_Mo_leads_5 (by decide) (fun q29 => ?_) (fun q29 => ?_)
  · replace F := F.1 q29
    refine x_bipush (v := (-2)) hM d_Mo_leads_32 (by decide) ?_
    exact x_ireturn hM d_Mo_leads_34 rfl F
  · replace F := F.2 q29
    refine x_aload_n hM d_Mo_leads_8 rfl 0 rfl ?_
    refine x_iload_n hM d_Mo_leads_9 rfl 2 rfl ?_
    obtain ⟨c28, F⟩ := F
    refine x_callV hG hM (r' := r_Mo_isAct) (ci := 11) [.int v2] rfl rfl (Nat.le_of_ble_eq_true rfl) yk_Mo_isAct ⟨Nat.le_of_ble_eq_true rfl, Nat.le_of_ble_eq_true rfl⟩ w_1040 w_1042 ws_Mo_isAct rfl rfl (Nat.le_of_ble_eq_true rfl) d_Mo_leads_10 c28 (sem_mono F ?_)
    intro u5 h4 F
    obtain ⟨x6, rfl, F⟩ := F
    refine x_if_eq (tgt := 32) hM d_Mo_leads_13 (by decide) (fun q27 => ?_) (fun q27 => ?_)
    · replace F := F.1 q27
      refine x_bipush (v := (-2)) hM d_Mo_leads_32 (by decide) ?_
      exact x_ireturn hM d_Mo_leads_34 rfl F
    · replace F := F.2 q27
      refine x_iload_n hM d_Mo_leads_16 rfl 3 rfl ?_
      refine x_iconst (v := 0) hM d_Mo_leads_17 (by decide) ?_
      refine x_aload_n hM d_Mo_leads_18 rfl 0 rfl ?_
      obtain ⟨c25, F⟩ := F
      obtain ⟨c26, F⟩ := F
      refine x_getr hG hM ck_Mo 4 (Nat.le_of_ble_eq_true rfl) rfl rfl w_901 rfl d_Mo_leads_19 c25 c26 ?_
      refine x_iload_n hM d_Mo_leads_22 rfl 2 rfl ?_
      obtain ⟨c23, F⟩ := F
      obtain ⟨c24, F⟩ := F
      refine x_iaload hG hM d_Mo_leads_23 c23 c24 ?_
      refine x_iconst (v := 1) hM d_Mo_leads_24 (by decide) ?_
      refine x_isub hM d_Mo_leads_25 ?_
      refine x_callS hG hM (r' := r_Mo_isIn) [.int v3, .int 0, .int ((kI h4 (rf h4 v0 4) (Int32.toNatClampNeg v2)) - 1)] rfl yk_Mo_isIn ⟨Nat.le_of_ble_eq_true rfl, Nat.le_of_ble_eq_true rfl⟩ w_1017 w_1018 rfl rfl (Nat.le_of_ble_eq_true rfl) d_Mo_leads_26 (sem_mono F ?_)
      intro u8 h7 F
      obtain ⟨x9, rfl, F⟩ := F
      refine x_if_ne (tgt := 35) hM d_Mo_leads_29 (by decide) (fun q22 => ?_) (fun q22 => ?_)
      · replace F := F.2 q22
        refine x_aload_n hM d_Mo_leads_35 rfl 0 rfl ?_
        refine x_iload_n hM d_Mo_leads_36 rfl 1 rfl ?_
        obtain ⟨c21, F⟩ := F
        refine x_callV hG hM (r' := r_Mo_open) (ci := 11) [.int v1] rfl rfl (Nat.le_of_ble_eq_true rfl) yk_Mo_open ⟨Nat.le_of_ble_eq_true rfl, Nat.le_of_ble_eq_true rfl⟩ w_1092 w_1094 ws_Mo_open rfl rfl (Nat.le_of_ble_eq_true rfl) d_Mo_leads_37 c21 (sem_mono F ?_)
        intro u11 h10 F
        obtain ⟨rfl, F⟩ := F
        refine x_aload_n hM d_Mo_leads_40 rfl 0 rfl ?_
        refine x_iload_n hM d_Mo_leads_41 rfl 2 rfl ?_
        obtain ⟨c20, F⟩ := F
        refine x_callV hG hM (r' := r_Mo_hold) (ci := 11) [.int v2] rfl rfl (Nat.le_of_ble_eq_true rfl) yk_Mo_hold ⟨Nat.le_of_ble_eq_true rfl, Nat.le_of_ble_eq_true rfl⟩ w_1096 w_1098 ws_Mo_hold rfl rfl (Nat.le_of_ble_eq_true rfl) d_Mo_leads_42 c20 (sem_mono F ?_)
        intro u13 h12 F
        obtain ⟨x14, rfl, F⟩ := F
        refine x_if_eq (tgt := 60) hM d_Mo_leads_45 (by decide) (fun q19 => ?_) (fun q19 => ?_)
        · replace F := F.1 q19
          refine x_iconst (v := (-1)) hM d_Mo_leads_60 (by decide) ?_
          exact x_ireturn hM d_Mo_leads_61 rfl F
        · replace F := F.2 q19
          refine x_aload_n hM d_Mo_leads_48 rfl 0 rfl ?_
          refine x_iconst (v := 3) hM d_Mo_leads_49 (by decide) ?_
          refine x_iload_n hM d_Mo_leads_50 rfl 2 rfl ?_
          refine x_imul hM d_Mo_leads_51 ?_
          refine x_iload_n hM d_Mo_leads_52 rfl 3 rfl ?_
          refine x_iadd hM d_Mo_leads_53 ?_
          obtain ⟨c18, F⟩ := F
          refine x_callV hG hM (r' := r_Mo_goes) (ci := 11) [.int ((3 * v2) + v3)] rfl rfl (Nat.le_of_ble_eq_true rfl) yk_Mo_goes ⟨Nat.le_of_ble_eq_true rfl, Nat.le_of_ble_eq_true rfl⟩ w_1100 w_1102 ws_Mo_goes rfl rfl (Nat.le_of_ble_eq_true rfl) d_Mo_leads_54 c18 (sem_mono F ?_)
          intro u16 h15 F
          obtain ⟨x17, rfl, F⟩ := F
          refine x_goto (tgt := 61) hM d_Mo_leads_57 (by decide) ?_
          exact x_ireturn hM d_Mo_leads_61 rfl F
      · replace F := F.1 q22
        refine x_bipush (v := (-2)) hM d_Mo_leads_32 (by decide) ?_
        exact x_ireturn hM d_Mo_leads_34 rfl F
theorem d_Mo_open_0 : decode b_Mo_open 0 = .ok (.iload_n 1, 1) := by decide +kernel
theorem d_Mo_open_1 : decode b_Mo_open 1 = .ok (.istore_n 2, 1) := by decide +kernel
theorem d_Mo_open_2 : decode b_Mo_open 2 = .ok (.iconst 0, 1) := by decide +kernel
theorem d_Mo_open_3 : decode b_Mo_open 3 = .ok (.istore_n 3, 1) := by decide +kernel
theorem d_Mo_open_4 : decode b_Mo_open 4 = .ok (.iload_n 3, 1) := by decide +kernel
theorem d_Mo_open_5 : decode b_Mo_open 5 = .ok (.aload_n 0, 1) := by decide +kernel
theorem d_Mo_open_6 : decode b_Mo_open 6 = .ok (.getfield 105, 3) := by decide +kernel
theorem d_Mo_open_9 : decode b_Mo_open 9 = .ok (.if_icmp .ge 32, 3) := by decide +kernel
theorem d_Mo_open_12 : decode b_Mo_open 12 = .ok (.aload_n 0, 1) := by decide +kernel
theorem d_Mo_open_13 : decode b_Mo_open 13 = .ok (.getfield 28, 3) := by decide +kernel
theorem d_Mo_open_16 : decode b_Mo_open 16 = .ok (.iload_n 3, 1) := by decide +kernel
theorem d_Mo_open_17 : decode b_Mo_open 17 = .ok (.iload_n 2, 1) := by decide +kernel
theorem d_Mo_open_18 : decode b_Mo_open 18 = .ok (.aload_n 0, 1) := by decide +kernel
theorem d_Mo_open_19 : decode b_Mo_open 19 = .ok (.getfield 7, 3) := by decide +kernel
theorem d_Mo_open_22 : decode b_Mo_open 22 = .ok (.iload_n 3, 1) := by decide +kernel
theorem d_Mo_open_23 : decode b_Mo_open 23 = .ok (.iaload, 1) := by decide +kernel
theorem d_Mo_open_24 : decode b_Mo_open 24 = .ok (.irem, 1) := by decide +kernel
theorem d_Mo_open_25 : decode b_Mo_open 25 = .ok (.iastore, 1) := by decide +kernel
theorem d_Mo_open_26 : decode b_Mo_open 26 = .ok (.iload_n 2, 1) := by decide +kernel
theorem d_Mo_open_27 : decode b_Mo_open 27 = .ok (.aload_n 0, 1) := by decide +kernel
theorem d_Mo_open_28 : decode b_Mo_open 28 = .ok (.getfield 7, 3) := by decide +kernel
theorem d_Mo_open_31 : decode b_Mo_open 31 = .ok (.iload_n 3, 1) := by decide +kernel
theorem d_Mo_open_32 : decode b_Mo_open 32 = .ok (.iaload, 1) := by decide +kernel
theorem d_Mo_open_33 : decode b_Mo_open 33 = .ok (.idiv, 1) := by decide +kernel
theorem d_Mo_open_34 : decode b_Mo_open 34 = .ok (.istore_n 2, 1) := by decide +kernel
theorem d_Mo_open_35 : decode b_Mo_open 35 = .ok (.iinc 3 1, 3) := by decide +kernel
theorem d_Mo_open_38 : decode b_Mo_open 38 = .ok (.goto (-34), 3) := by decide +kernel
theorem d_Mo_open_41 : decode b_Mo_open 41 = .ok (.return_, 1) := by decide +kernel
set_option maxRecDepth 100000 in
set_option maxHeartbeats 4000000 in
theorem S_Mo_open_0 {G : Gc} {M : Mc} {Q : State → Prop} {K : Option Value → Hp → Prop} (hG : gok G) (hM : mok G M r_Mo_open Q K) (v0 : Nat) (v1 : Int32) (h : Hp) (F : X G M Q 4 [(0, .ref v0), (2, .int v1), (3, .int 0)] [] h) : X G M Q 0 [(0, .ref v0), (1, .int v1)] [] h := by
  refine x_iload_n hM d_Mo_open_0 rfl 1 rfl ?_
  refine x_istore_n (lv2 := [(2, .int v1), (0, .ref v0), (1, .int v1)]) hM d_Mo_open_1 rfl (Nat.le_of_ble_eq_true rfl) rfl ?_
  refine x_iconst (v := 0) hM d_Mo_open_2 (by decide) ?_
  refine x_istore_n (lv2 := [(3, .int 0), (2, .int v1), (0, .ref v0), (1, .int v1)]) hM d_Mo_open_3 rfl (Nat.le_of_ble_eq_true rfl) rfl ?_
  refine x_sub [2, 1, 0] rfl ?_
  exact F
set_option maxRecDepth 100000 in
set_option maxHeartbeats 4000000 in
theorem S_Mo_open_4 {G : Gc} {M : Mc} {Q : State → Prop} {K : Option Value → Hp → Prop} (hG : gok G) (hM : mok G M r_Mo_open Q K) (v0 : Nat) (v2 : Int32) (v3 : Int32) (h : Hp) (F : kT h v0 = 12 ∧ (((kI h v0 0) ≤ v3 → K none h) ∧ (¬ (kI h v0 0) ≤ v3 → (kT h v0 = 12 ∧ kR h v0 10 = some (rf h v0 10) ∧ (kT h v0 = 12 ∧ kR h v0 1 = some (rf h v0 1) ∧ (kT h (rf h v0 1) = 50 ∧ vp_in v3 (kN h (rf h v0 1)) ∧ (¬ (kI h (rf h v0 1) (Int32.toNatClampNeg v3)) = 0 ∧ (kT h (rf h v0 10) = 50 ∧ vp_in v3 (kN h (rf h v0 10)) ∧ (∀ h1 : Hp, h1 = wI h (rf h v0 10) (Int32.toNatClampNeg v3) (v2 - v2 / (kI h (rf h v0 1) (Int32.toNatClampNeg v3)) * (kI h (rf h v0 1) (Int32.toNatClampNeg v3))) → (kT h1 v0 = 12 ∧ kR h1 v0 1 = some (rf h1 v0 1) ∧ (kT h1 (rf h1 v0 1) = 50 ∧ vp_in v3 (kN h1 (rf h1 v0 1)) ∧ (¬ (kI h1 (rf h1 v0 1) (Int32.toNatClampNeg v3)) = 0 ∧ X G M Q 4 [(0, .ref v0), (2, .int (v2 / (kI h1 (rf h1 v0 1) (Int32.toNatClampNeg v3)))), (3, .int (v3 + 1))] [] h1)))))))))))) : X G M Q 4 [(0, .ref v0), (2, .int v2), (3, .int v3)] [] h := by
  refine x_iload_n hM d_Mo_open_4 rfl 2 rfl ?_
  refine x_aload_n hM d_Mo_open_5 rfl 0 rfl ?_
  obtain ⟨c17, F⟩ := F
  refine x_geti hG hM ck_Mo 0 (Nat.le_of_ble_eq_true rfl) rfl rfl w_897 rfl d_Mo_open_6 c17 ?_
  refine x_icmp_ge (tgt := 41) hM d_Mo_open_9 (by decide) (fun q16 => ?_) (fun q16 => ?_)
  · replace F := F.1 q16
    exact x_return hM d_Mo_open_41 rfl F
  · replace F := F.2 q16
    refine x_aload_n hM d_Mo_open_12 rfl 0 rfl ?_
    obtain ⟨c14, F⟩ := F
    obtain ⟨c15, F⟩ := F
    refine x_getr hG hM ck_Mo 10 (Nat.le_of_ble_eq_true rfl) rfl rfl w_907 rfl d_Mo_open_13 c14 c15 ?_
    refine x_iload_n hM d_Mo_open_16 rfl 2 rfl ?_
    refine x_iload_n hM d_Mo_open_17 rfl 1 rfl ?_
    refine x_aload_n hM d_Mo_open_18 rfl 0 rfl ?_
    obtain ⟨c12, F⟩ := F
    obtain ⟨c13, F⟩ := F
    refine x_getr hG hM ck_Mo 1 (Nat.le_of_ble_eq_true rfl) rfl rfl w_898 rfl d_Mo_open_19 c12 c13 ?_
    refine x_iload_n hM d_Mo_open_22 rfl 2 rfl ?_
    obtain ⟨c10, F⟩ := F
    obtain ⟨c11, F⟩ := F
    refine x_iaload hG hM d_Mo_open_23 c10 c11 ?_
    obtain ⟨c9, F⟩ := F
    refine x_irem hM d_Mo_open_24 c9 ?_
    obtain ⟨c7, F⟩ := F
    obtain ⟨c8, F⟩ := F
    obtain ⟨h1, eh1⟩ : ∃ z : Hp, z = wI h (rf h v0 10) (Int32.toNatClampNeg v3) (v2 - v2 / (kI h (rf h v0 1) (Int32.toNatClampNeg v3)) * (kI h (rf h v0 1) (Int32.toNatClampNeg v3))) := ⟨_, rfl⟩
    replace F := F h1 eh1
    refine x_iastore hG hM d_Mo_open_25 c7 c8 ?_
    rw [← eh1]
    clear eh1
    refine x_iload_n hM d_Mo_open_26 rfl 1 rfl ?_
    refine x_aload_n hM d_Mo_open_27 rfl 0 rfl ?_
    obtain ⟨c5, F⟩ := F
    obtain ⟨c6, F⟩ := F
    refine x_getr hG hM ck_Mo 1 (Nat.le_of_ble_eq_true rfl) rfl rfl w_898 rfl d_Mo_open_28 c5 c6 ?_
    refine x_iload_n hM d_Mo_open_31 rfl 2 rfl ?_
    obtain ⟨c3, F⟩ := F
    obtain ⟨c4, F⟩ := F
    refine x_iaload hG hM d_Mo_open_32 c3 c4 ?_
    obtain ⟨c2, F⟩ := F
    refine x_idiv hM d_Mo_open_33 c2 ?_
    refine x_istore_n (lv2 := [(2, .int (v2 / (kI h1 (rf h1 v0 1) (Int32.toNatClampNeg v3)))), (0, .ref v0), (3, .int v3)]) hM d_Mo_open_34 rfl (Nat.le_of_ble_eq_true rfl) rfl ?_
    refine x_iinc (v := (v3 + 1)) (lv2 := [(3, .int (v3 + 1)), (2, .int (v2 / (kI h1 (rf h1 v0 1) (Int32.toNatClampNeg v3)))), (0, .ref v0)]) hM d_Mo_open_35 (j := 2) rfl rfl (Nat.le_of_ble_eq_true rfl) rfl ?_
    refine x_goto (tgt := 4) hM d_Mo_open_38 (by decide) ?_
    refine x_sub [2, 1, 0] rfl ?_
    exact F
theorem d_Mo_hold_0 : decode b_Mo_hold 0 = .ok (.iconst 1, 1) := by decide +kernel
theorem d_Mo_hold_1 : decode b_Mo_hold 1 = .ok (.istore_n 2, 1) := by decide +kernel
theorem d_Mo_hold_2 : decode b_Mo_hold 2 = .ok (.iconst 0, 1) := by decide +kernel
theorem d_Mo_hold_3 : decode b_Mo_hold 3 = .ok (.istore_n 3, 1) := by decide +kernel
theorem d_Mo_hold_4 : decode b_Mo_hold 4 = .ok (.iload_n 3, 1) := by decide +kernel
theorem d_Mo_hold_5 : decode b_Mo_hold 5 = .ok (.aload_n 0, 1) := by decide +kernel
theorem d_Mo_hold_6 : decode b_Mo_hold 6 = .ok (.getfield 16, 3) := by decide +kernel
theorem d_Mo_hold_9 : decode b_Mo_hold 9 = .ok (.iload_n 1, 1) := by decide +kernel
theorem d_Mo_hold_10 : decode b_Mo_hold 10 = .ok (.iaload, 1) := by decide +kernel
theorem d_Mo_hold_11 : decode b_Mo_hold 11 = .ok (.if_icmp .ge 132, 3) := by decide +kernel
theorem d_Mo_hold_14 : decode b_Mo_hold 14 = .ok (.aload_n 0, 1) := by decide +kernel
theorem d_Mo_hold_15 : decode b_Mo_hold 15 = .ok (.getfield 28, 3) := by decide +kernel
theorem d_Mo_hold_18 : decode b_Mo_hold 18 = .ok (.aload_n 0, 1) := by decide +kernel
theorem d_Mo_hold_19 : decode b_Mo_hold 19 = .ok (.getfield 19, 3) := by decide +kernel
theorem d_Mo_hold_22 : decode b_Mo_hold 22 = .ok (.bipush 12, 2) := by decide +kernel
theorem d_Mo_hold_24 : decode b_Mo_hold 24 = .ok (.iload_n 1, 1) := by decide +kernel
theorem d_Mo_hold_25 : decode b_Mo_hold 25 = .ok (.imul, 1) := by decide +kernel
theorem d_Mo_hold_26 : decode b_Mo_hold 26 = .ok (.iconst 3, 1) := by decide +kernel
theorem d_Mo_hold_27 : decode b_Mo_hold 27 = .ok (.iload_n 3, 1) := by decide +kernel
theorem d_Mo_hold_28 : decode b_Mo_hold 28 = .ok (.imul, 1) := by decide +kernel
theorem d_Mo_hold_29 : decode b_Mo_hold 29 = .ok (.iadd, 1) := by decide +kernel
theorem d_Mo_hold_30 : decode b_Mo_hold 30 = .ok (.iaload, 1) := by decide +kernel
theorem d_Mo_hold_31 : decode b_Mo_hold 31 = .ok (.iaload, 1) := by decide +kernel
theorem d_Mo_hold_32 : decode b_Mo_hold 32 = .ok (.istore 4, 2) := by decide +kernel
theorem d_Mo_hold_34 : decode b_Mo_hold 34 = .ok (.aload_n 0, 1) := by decide +kernel
theorem d_Mo_hold_35 : decode b_Mo_hold 35 = .ok (.getfield 19, 3) := by decide +kernel
theorem d_Mo_hold_38 : decode b_Mo_hold 38 = .ok (.bipush 12, 2) := by decide +kernel
theorem d_Mo_hold_40 : decode b_Mo_hold 40 = .ok (.iload_n 1, 1) := by decide +kernel
theorem d_Mo_hold_41 : decode b_Mo_hold 41 = .ok (.imul, 1) := by decide +kernel
theorem d_Mo_hold_42 : decode b_Mo_hold 42 = .ok (.iconst 3, 1) := by decide +kernel
theorem d_Mo_hold_43 : decode b_Mo_hold 43 = .ok (.iload_n 3, 1) := by decide +kernel
theorem d_Mo_hold_44 : decode b_Mo_hold 44 = .ok (.imul, 1) := by decide +kernel
theorem d_Mo_hold_45 : decode b_Mo_hold 45 = .ok (.iadd, 1) := by decide +kernel
theorem d_Mo_hold_46 : decode b_Mo_hold 46 = .ok (.iconst 1, 1) := by decide +kernel
theorem d_Mo_hold_47 : decode b_Mo_hold 47 = .ok (.iadd, 1) := by decide +kernel
theorem d_Mo_hold_48 : decode b_Mo_hold 48 = .ok (.iaload, 1) := by decide +kernel
theorem d_Mo_hold_49 : decode b_Mo_hold 49 = .ok (.istore 5, 2) := by decide +kernel
theorem d_Mo_hold_51 : decode b_Mo_hold 51 = .ok (.aload_n 0, 1) := by decide +kernel
theorem d_Mo_hold_52 : decode b_Mo_hold 52 = .ok (.getfield 19, 3) := by decide +kernel
theorem d_Mo_hold_55 : decode b_Mo_hold 55 = .ok (.bipush 12, 2) := by decide +kernel
theorem d_Mo_hold_57 : decode b_Mo_hold 57 = .ok (.iload_n 1, 1) := by decide +kernel
theorem d_Mo_hold_58 : decode b_Mo_hold 58 = .ok (.imul, 1) := by decide +kernel
theorem d_Mo_hold_59 : decode b_Mo_hold 59 = .ok (.iconst 3, 1) := by decide +kernel
theorem d_Mo_hold_60 : decode b_Mo_hold 60 = .ok (.iload_n 3, 1) := by decide +kernel
theorem d_Mo_hold_61 : decode b_Mo_hold 61 = .ok (.imul, 1) := by decide +kernel
theorem d_Mo_hold_62 : decode b_Mo_hold 62 = .ok (.iadd, 1) := by decide +kernel
theorem d_Mo_hold_63 : decode b_Mo_hold 63 = .ok (.iconst 2, 1) := by decide +kernel
theorem d_Mo_hold_64 : decode b_Mo_hold 64 = .ok (.iadd, 1) := by decide +kernel
theorem d_Mo_hold_65 : decode b_Mo_hold 65 = .ok (.iaload, 1) := by decide +kernel
theorem d_Mo_hold_66 : decode b_Mo_hold 66 = .ok (.istore 6, 2) := by decide +kernel
theorem d_Mo_hold_68 : decode b_Mo_hold 68 = .ok (.iload_n 2, 1) := by decide +kernel
theorem d_Mo_hold_69 : decode b_Mo_hold 69 = .ok (.ifCond .eq 66, 3) := by decide +kernel
theorem d_Mo_hold_72 : decode b_Mo_hold 72 = .ok (.iload 5, 2) := by decide +kernel
theorem d_Mo_hold_74 : decode b_Mo_hold 74 = .ok (.ifCond .ne 13, 3) := by decide +kernel
theorem d_Mo_hold_77 : decode b_Mo_hold 77 = .ok (.iload 4, 2) := by decide +kernel
theorem d_Mo_hold_79 : decode b_Mo_hold 79 = .ok (.iload 6, 2) := by decide +kernel
theorem d_Mo_hold_81 : decode b_Mo_hold 81 = .ok (.if_icmp .ne 54, 3) := by decide +kernel
theorem d_Mo_hold_84 : decode b_Mo_hold 84 = .ok (.goto 47, 3) := by decide +kernel
theorem d_Mo_hold_87 : decode b_Mo_hold 87 = .ok (.iload 5, 2) := by decide +kernel
theorem d_Mo_hold_89 : decode b_Mo_hold 89 = .ok (.iconst 1, 1) := by decide +kernel
theorem d_Mo_hold_90 : decode b_Mo_hold 90 = .ok (.if_icmp .ne 13, 3) := by decide +kernel
theorem d_Mo_hold_93 : decode b_Mo_hold 93 = .ok (.iload 4, 2) := by decide +kernel
theorem d_Mo_hold_95 : decode b_Mo_hold 95 = .ok (.iload 6, 2) := by decide +kernel
theorem d_Mo_hold_97 : decode b_Mo_hold 97 = .ok (.if_icmp .eq 38, 3) := by decide +kernel
theorem d_Mo_hold_100 : decode b_Mo_hold 100 = .ok (.goto 31, 3) := by decide +kernel
theorem d_Mo_hold_103 : decode b_Mo_hold 103 = .ok (.iload 5, 2) := by decide +kernel
theorem d_Mo_hold_105 : decode b_Mo_hold 105 = .ok (.iconst 2, 1) := by decide +kernel
theorem d_Mo_hold_106 : decode b_Mo_hold 106 = .ok (.if_icmp .ne 18, 3) := by decide +kernel
theorem d_Mo_hold_109 : decode b_Mo_hold 109 = .ok (.iload 4, 2) := by decide +kernel
theorem d_Mo_hold_111 : decode b_Mo_hold 111 = .ok (.aload_n 0, 1) := by decide +kernel
theorem d_Mo_hold_112 : decode b_Mo_hold 112 = .ok (.getfield 28, 3) := by decide +kernel
theorem d_Mo_hold_115 : decode b_Mo_hold 115 = .ok (.iload 6, 2) := by decide +kernel
theorem d_Mo_hold_117 : decode b_Mo_hold 117 = .ok (.iaload, 1) := by decide +kernel
theorem d_Mo_hold_118 : decode b_Mo_hold 118 = .ok (.if_icmp .ne 17, 3) := by decide +kernel
theorem d_Mo_hold_121 : decode b_Mo_hold 121 = .ok (.goto 10, 3) := by decide +kernel
theorem d_Mo_hold_124 : decode b_Mo_hold 124 = .ok (.iload 4, 2) := by decide +kernel
theorem d_Mo_hold_126 : decode b_Mo_hold 126 = .ok (.iload 6, 2) := by decide +kernel
theorem d_Mo_hold_128 : decode b_Mo_hold 128 = .ok (.if_icmp .ge 7, 3) := by decide +kernel
theorem d_Mo_hold_131 : decode b_Mo_hold 131 = .ok (.iconst 1, 1) := by decide +kernel
theorem d_Mo_hold_132 : decode b_Mo_hold 132 = .ok (.goto 4, 3) := by decide +kernel
theorem d_Mo_hold_135 : decode b_Mo_hold 135 = .ok (.iconst 0, 1) := by decide +kernel
theorem d_Mo_hold_136 : decode b_Mo_hold 136 = .ok (.istore_n 2, 1) := by decide +kernel
theorem d_Mo_hold_137 : decode b_Mo_hold 137 = .ok (.iinc 3 1, 3) := by decide +kernel
theorem d_Mo_hold_140 : decode b_Mo_hold 140 = .ok (.goto (-136), 3) := by decide +kernel
theorem d_Mo_hold_143 : decode b_Mo_hold 143 = .ok (.iload_n 2, 1) := by decide +kernel
theorem d_Mo_hold_144 : decode b_Mo_hold 144 = .ok (.ireturn, 1) := by decide +kernel
set_option maxRecDepth 100000 in
set_option maxHeartbeats 4000000 in
theorem S_Mo_hold_0 {G : Gc} {M : Mc} {Q : State → Prop} {K : Option Value → Hp → Prop} (hG : gok G) (hM : mok G M r_Mo_hold Q K) (v0 : Nat) (v1 : Int32) (h : Hp) (F : X G M Q 4 [(0, .ref v0), (1, .int v1), (2, .int 1), (3, .int 0)] [] h) : X G M Q 0 [(0, .ref v0), (1, .int v1)] [] h := by
  refine x_iconst (v := 1) hM d_Mo_hold_0 (by decide) ?_
  refine x_istore_n (lv2 := [(2, .int 1), (0, .ref v0), (1, .int v1)]) hM d_Mo_hold_1 rfl (Nat.le_of_ble_eq_true rfl) rfl ?_
  refine x_iconst (v := 0) hM d_Mo_hold_2 (by decide) ?_
  refine x_istore_n (lv2 := [(3, .int 0), (2, .int 1), (0, .ref v0), (1, .int v1)]) hM d_Mo_hold_3 rfl (Nat.le_of_ble_eq_true rfl) rfl ?_
  refine x_sub [2, 3, 1, 0] rfl ?_
  exact F
set_option maxRecDepth 100000 in
set_option maxHeartbeats 4000000 in
theorem S_Mo_hold_4 {G : Gc} {M : Mc} {Q : State → Prop} {K : Option Value → Hp → Prop} (hG : gok G) (hM : mok G M r_Mo_hold Q K) (v0 : Nat) (v1 : Int32) (v2 : Int32) (v3 : Int32) (h : Hp) (F : kT h v0 = 12 ∧ kR h v0 5 = some (rf h v0 5) ∧ (kT h (rf h v0 5) = 50 ∧ vp_in v1 (kN h (rf h v0 5)) ∧ (((kI h (rf h v0 5) (Int32.toNatClampNeg v1)) ≤ v3 → (nb v2 ∧ K (some (.int v2)) h)) ∧ (¬ (kI h (rf h v0 5) (Int32.toNatClampNeg v1)) ≤ v3 → (kT h v0 = 12 ∧ kR h v0 10 = some (rf h v0 10) ∧ (kT h v0 = 12 ∧ kR h v0 6 = some (rf h v0 6) ∧ (kT h (rf h v0 6) = 50 ∧ vp_in ((12 * v1) + (3 * v3)) (kN h (rf h v0 6)) ∧ (kT h (rf h v0 10) = 50 ∧ vp_in (kI h (rf h v0 6) (Int32.toNatClampNeg ((12 * v1) + (3 * v3)))) (kN h (rf h v0 10)) ∧ (kT h v0 = 12 ∧ kR h v0 6 = some (rf h v0 6) ∧ (kT h (rf h v0 6) = 50 ∧ vp_in (((12 * v1) + (3 * v3)) + 1) (kN h (rf h v0 6)) ∧ (kT h v0 = 12 ∧ kR h v0 6 = some (rf h v0 6) ∧ (kT h (rf h v0 6) = 50 ∧ vp_in (((12 * v1) + (3 * v3)) + 2) (kN h (rf h v0 6)) ∧ ((¬ v2 = 0 → (¬ (kI h (rf h v0 6) (Int32.toNatClampNeg (((12 * v1) + (3 * v3)) + 1))) = 0 → (¬ (kI h (rf h v0 6) (Int32.toNatClampNeg (((12 * v1) + (3 * v3)) + 1))) = 1 → ((kI h (rf h v0 6) (Int32.toNatClampNeg (((12 * v1) + (3 * v3)) + 1))) = 2 → (kT h v0 = 12 ∧ kR h v0 10 = some (rf h v0 10) ∧ kT h (rf h v0 10) = 50 ∧ vp_in (kI h (rf h v0 6) (Int32.toNatClampNeg (((12 * v1) + (3 * v3)) + 2))) (kN h (rf h v0 10))))))) ∧ (∀ z1 : Int32, z1 = (if v2 = 0 then 0 else (if (kI h (rf h v0 6) (Int32.toNatClampNeg (((12 * v1) + (3 * v3)) + 1))) = 0 then (if (kI h (rf h v0 10) (Int32.toNatClampNeg (kI h (rf h v0 6) (Int32.toNatClampNeg ((12 * v1) + (3 * v3)))))) = (kI h (rf h v0 6) (Int32.toNatClampNeg (((12 * v1) + (3 * v3)) + 2))) then 1 else 0) else (if (kI h (rf h v0 6) (Int32.toNatClampNeg (((12 * v1) + (3 * v3)) + 1))) = 1 then (if (kI h (rf h v0 10) (Int32.toNatClampNeg (kI h (rf h v0 6) (Int32.toNatClampNeg ((12 * v1) + (3 * v3)))))) = (kI h (rf h v0 6) (Int32.toNatClampNeg (((12 * v1) + (3 * v3)) + 2))) then 0 else 1) else (if (kI h (rf h v0 6) (Int32.toNatClampNeg (((12 * v1) + (3 * v3)) + 1))) = 2 then (if (kI h (rf h v0 10) (Int32.toNatClampNeg (kI h (rf h v0 6) (Int32.toNatClampNeg ((12 * v1) + (3 * v3)))))) = (kI h (rf h v0 10) (Int32.toNatClampNeg (kI h (rf h v0 6) (Int32.toNatClampNeg (((12 * v1) + (3 * v3)) + 2))))) then 1 else 0) else (if (kI h (rf h v0 6) (Int32.toNatClampNeg (((12 * v1) + (3 * v3)) + 2))) ≤ (kI h (rf h v0 10) (Int32.toNatClampNeg (kI h (rf h v0 6) (Int32.toNatClampNeg ((12 * v1) + (3 * v3)))))) then 0 else 1))))) → X G M Q 4 [(0, .ref v0), (1, .int v1), (2, .int z1), (3, .int (v3 + 1))] [] h)))))))))))))) : X G M Q 4 [(0, .ref v0), (1, .int v1), (2, .int v2), (3, .int v3)] [] h := by
  refine x_iload_n hM d_Mo_hold_4 rfl 3 rfl ?_
  refine x_aload_n hM d_Mo_hold_5 rfl 0 rfl ?_
  obtain ⟨c33, F⟩ := F
  obtain ⟨c34, F⟩ := F
  refine x_getr hG hM ck_Mo 5 (Nat.le_of_ble_eq_true rfl) rfl rfl w_902 rfl d_Mo_hold_6 c33 c34 ?_
  refine x_iload_n hM d_Mo_hold_9 rfl 1 rfl ?_
  obtain ⟨c31, F⟩ := F
  obtain ⟨c32, F⟩ := F
  refine x_iaload hG hM d_Mo_hold_10 c31 c32 ?_
  refine x_icmp_ge (tgt := 143) hM d_Mo_hold_11 (by decide) (fun q30 => ?_) (fun q30 => ?_)
  · replace F := F.1 q30
    refine x_iload_n hM d_Mo_hold_143 rfl 2 rfl ?_
    exact x_zreturn hM d_Mo_hold_144 rfl F.1 F.2
  · replace F := F.2 q30
    refine x_aload_n hM d_Mo_hold_14 rfl 0 rfl ?_
    obtain ⟨c28, F⟩ := F
    obtain ⟨c29, F⟩ := F
    refine x_getr hG hM ck_Mo 10 (Nat.le_of_ble_eq_true rfl) rfl rfl w_907 rfl d_Mo_hold_15 c28 c29 ?_
    refine x_aload_n hM d_Mo_hold_18 rfl 0 rfl ?_
    obtain ⟨c26, F⟩ := F
    obtain ⟨c27, F⟩ := F
    refine x_getr hG hM ck_Mo 6 (Nat.le_of_ble_eq_true rfl) rfl rfl w_903 rfl d_Mo_hold_19 c26 c27 ?_
    refine x_bipush (v := 12) hM d_Mo_hold_22 (by decide) ?_
    refine x_iload_n hM d_Mo_hold_24 rfl 1 rfl ?_
    refine x_imul hM d_Mo_hold_25 ?_
    refine x_iconst (v := 3) hM d_Mo_hold_26 (by decide) ?_
    refine x_iload_n hM d_Mo_hold_27 rfl 3 rfl ?_
    refine x_imul hM d_Mo_hold_28 ?_
    refine x_iadd hM d_Mo_hold_29 ?_
    obtain ⟨c24, F⟩ := F
    obtain ⟨c25, F⟩ := F
    refine x_iaload hG hM d_Mo_hold_30 c24 c25 ?_
    obtain ⟨c22, F⟩ := F
    obtain ⟨c23, F⟩ := F
    refine x_iaload hG hM d_Mo_hold_31 c22 c23 ?_
    refine x_istore (lv2 := [(4, .int (kI h (rf h v0 10) (Int32.toNatClampNeg (kI h (rf h v0 6) (Int32.toNatClampNeg ((12 * v1) + (3 * v3))))))), (0, .ref v0), (1, .int v1), (2, .int v2), (3, .int v3)]) hM d_Mo_hold_32 (Nat.le_of_ble_eq_true rfl) rfl ?_
    refine x_aload_n hM d_Mo_hold_34 rfl 1 rfl ?_
    obtain ⟨c20, F⟩ := F
    obtain ⟨c21, F⟩ := F
    refine x_getr hG hM ck_Mo 6 (Nat.le_of_ble_eq_true rfl) rfl rfl w_903 rfl d_Mo_hold_35 c20 c21 ?_
    refine x_bipush (v := 12) hM d_Mo_hold_38 (by decide) ?_
    refine x_iload_n hM d_Mo_hold_40 rfl 2 rfl ?_
    refine x_imul hM d_Mo_hold_41 ?_
    refine x_iconst (v := 3) hM d_Mo_hold_42 (by decide) ?_
    refine x_iload_n hM d_Mo_hold_43 rfl 4 rfl ?_
    refine x_imul hM d_Mo_hold_44 ?_
    refine x_iadd hM d_Mo_hold_45 ?_
    refine x_iconst (v := 1) hM d_Mo_hold_46 (by decide) ?_
    refine x_iadd hM d_Mo_hold_47 ?_
    obtain ⟨c18, F⟩ := F
    obtain ⟨c19, F⟩ := F
    refine x_iaload hG hM d_Mo_hold_48 c18 c19 ?_
    refine x_istore (lv2 := [(5, .int (kI h (rf h v0 6) (Int32.toNatClampNeg (((12 * v1) + (3 * v3)) + 1)))), (4, .int (kI h (rf h v0 10) (Int32.toNatClampNeg (kI h (rf h v0 6) (Int32.toNatClampNeg ((12 * v1) + (3 * v3))))))), (0, .ref v0), (1, .int v1), (2, .int v2), (3, .int v3)]) hM d_Mo_hold_49 (Nat.le_of_ble_eq_true rfl) rfl ?_
    refine x_aload_n hM d_Mo_hold_51 rfl 2 rfl ?_
    obtain ⟨c16, F⟩ := F
    obtain ⟨c17, F⟩ := F
    refine x_getr hG hM ck_Mo 6 (Nat.le_of_ble_eq_true rfl) rfl rfl w_903 rfl d_Mo_hold_52 c16 c17 ?_
    refine x_bipush (v := 12) hM d_Mo_hold_55 (by decide) ?_
    refine x_iload_n hM d_Mo_hold_57 rfl 3 rfl ?_
    refine x_imul hM d_Mo_hold_58 ?_
    refine x_iconst (v := 3) hM d_Mo_hold_59 (by decide) ?_
    refine x_iload_n hM d_Mo_hold_60 rfl 5 rfl ?_
    refine x_imul hM d_Mo_hold_61 ?_
    refine x_iadd hM d_Mo_hold_62 ?_
    refine x_iconst (v := 2) hM d_Mo_hold_63 (by decide) ?_
    refine x_iadd hM d_Mo_hold_64 ?_
    obtain ⟨c14, F⟩ := F
    obtain ⟨c15, F⟩ := F
    refine x_iaload hG hM d_Mo_hold_65 c14 c15 ?_
    refine x_istore (lv2 := [(6, .int (kI h (rf h v0 6) (Int32.toNatClampNeg (((12 * v1) + (3 * v3)) + 2)))), (5, .int (kI h (rf h v0 6) (Int32.toNatClampNeg (((12 * v1) + (3 * v3)) + 1)))), (4, .int (kI h (rf h v0 10) (Int32.toNatClampNeg (kI h (rf h v0 6) (Int32.toNatClampNeg ((12 * v1) + (3 * v3))))))), (0, .ref v0), (1, .int v1), (2, .int v2), (3, .int v3)]) hM d_Mo_hold_66 (Nat.le_of_ble_eq_true rfl) rfl ?_
    refine x_iload_n hM d_Mo_hold_68 rfl 5 rfl ?_
    obtain ⟨S, F⟩ := F
    have JJ : ∀ (z1 : Int32) (ez1 : z1 = (if v2 = 0 then 0 else (if (kI h (rf h v0 6) (Int32.toNatClampNeg (((12 * v1) + (3 * v3)) + 1))) = 0 then (if (kI h (rf h v0 10) (Int32.toNatClampNeg (kI h (rf h v0 6) (Int32.toNatClampNeg ((12 * v1) + (3 * v3)))))) = (kI h (rf h v0 6) (Int32.toNatClampNeg (((12 * v1) + (3 * v3)) + 2))) then 1 else 0) else (if (kI h (rf h v0 6) (Int32.toNatClampNeg (((12 * v1) + (3 * v3)) + 1))) = 1 then (if (kI h (rf h v0 10) (Int32.toNatClampNeg (kI h (rf h v0 6) (Int32.toNatClampNeg ((12 * v1) + (3 * v3)))))) = (kI h (rf h v0 6) (Int32.toNatClampNeg (((12 * v1) + (3 * v3)) + 2))) then 0 else 1) else (if (kI h (rf h v0 6) (Int32.toNatClampNeg (((12 * v1) + (3 * v3)) + 1))) = 2 then (if (kI h (rf h v0 10) (Int32.toNatClampNeg (kI h (rf h v0 6) (Int32.toNatClampNeg ((12 * v1) + (3 * v3)))))) = (kI h (rf h v0 10) (Int32.toNatClampNeg (kI h (rf h v0 6) (Int32.toNatClampNeg (((12 * v1) + (3 * v3)) + 2))))) then 1 else 0) else (if (kI h (rf h v0 6) (Int32.toNatClampNeg (((12 * v1) + (3 * v3)) + 2))) ≤ (kI h (rf h v0 10) (Int32.toNatClampNeg (kI h (rf h v0 6) (Int32.toNatClampNeg ((12 * v1) + (3 * v3)))))) then 0 else 1)))))), X G M Q 136 [(0, .ref v0), (1, .int v1), (3, .int v3)] [.int z1] h := by
      intro z1 ez1
      replace F := F _ ez1
      refine x_istore_n (lv2 := [(2, .int z1), (0, .ref v0), (1, .int v1), (3, .int v3)]) hM d_Mo_hold_136 rfl (Nat.le_of_ble_eq_true rfl) rfl ?_
      refine x_iinc (v := (v3 + 1)) (lv2 := [(3, .int (v3 + 1)), (2, .int z1), (0, .ref v0), (1, .int v1)]) hM d_Mo_hold_137 (j := 3) rfl rfl (Nat.le_of_ble_eq_true rfl) rfl ?_
      refine x_goto (tgt := 4) hM d_Mo_hold_140 (by decide) ?_
      refine x_sub [2, 3, 1, 0] rfl ?_
      exact F
    refine x_if_eq (tgt := 135) hM d_Mo_hold_69 (by decide) (fun q2 => ?_) (fun q2 => ?_)
    · refine x_iconst (v := 0) hM d_Mo_hold_135 (by decide) ?_
      refine x_sub [3, 4, 6] rfl ?_
      exact JJ _ (Eq.symm (if_pos q2))
    · replace S := S q2
      refine x_iload hM d_Mo_hold_72 1 rfl ?_
      refine x_if_ne (tgt := 87) hM d_Mo_hold_74 (by decide) (fun q3 => ?_) (fun q3 => ?_)
      · replace S := S q3
        refine x_iload hM d_Mo_hold_87 1 rfl ?_
        refine x_iconst (v := 1) hM d_Mo_hold_89 (by decide) ?_
        refine x_icmp_ne (tgt := 103) hM d_Mo_hold_90 (by decide) (fun q4 => ?_) (fun q4 => ?_)
        · replace S := S q4
          refine x_iload hM d_Mo_hold_103 1 rfl ?_
          refine x_iconst (v := 2) hM d_Mo_hold_105 (by decide) ?_
          refine x_icmp_ne (tgt := 124) hM d_Mo_hold_106 (by decide) (fun q5 => ?_) (fun q5 => ?_)
          · refine x_iload hM d_Mo_hold_124 2 rfl ?_
            refine x_iload hM d_Mo_hold_126 0 rfl ?_
            refine x_icmp_ge (tgt := 135) hM d_Mo_hold_128 (by decide) (fun q6 => ?_) (fun q6 => ?_)
            · refine x_iconst (v := 0) hM d_Mo_hold_135 (by decide) ?_
              refine x_sub [3, 4, 6] rfl ?_
              exact JJ _ (Eq.symm (Eq.trans (if_neg q2) (Eq.trans (if_neg q3) (Eq.trans (if_neg q4) (Eq.trans (if_neg q5) (if_pos q6))))))
            · refine x_iconst (v := 1) hM d_Mo_hold_131 (by decide) ?_
              refine x_goto (tgt := 136) hM d_Mo_hold_132 (by decide) ?_
              refine x_sub [3, 4, 6] rfl ?_
              exact JJ _ (Eq.symm (Eq.trans (if_neg q2) (Eq.trans (if_neg q3) (Eq.trans (if_neg q4) (Eq.trans (if_neg q5) (if_neg q6))))))
          · replace S := S q5
            refine x_iload hM d_Mo_hold_109 2 rfl ?_
            refine x_aload_n hM d_Mo_hold_111 rfl 3 rfl ?_
            obtain ⟨c7, S⟩ := S
            obtain ⟨c8, S⟩ := S
            refine x_getr hG hM ck_Mo 10 (Nat.le_of_ble_eq_true rfl) rfl rfl w_907 rfl d_Mo_hold_112 c7 c8 ?_
            refine x_iload hM d_Mo_hold_115 0 rfl ?_
            obtain ⟨c9, S⟩ := S
            have c10 := S
            refine x_iaload hG hM d_Mo_hold_117 c9 c10 ?_
            refine x_icmp_ne (tgt := 135) hM d_Mo_hold_118 (by decide) (fun q11 => ?_) (fun q11 => ?_)
            · refine x_iconst (v := 0) hM d_Mo_hold_135 (by decide) ?_
              refine x_sub [3, 4, 6] rfl ?_
              exact JJ _ (Eq.symm (Eq.trans (if_neg q2) (Eq.trans (if_neg q3) (Eq.trans (if_neg q4) (Eq.trans (if_pos q5) (if_neg q11))))))
            · refine x_goto (tgt := 131) hM d_Mo_hold_121 (by decide) ?_
              refine x_iconst (v := 1) hM d_Mo_hold_131 (by decide) ?_
              refine x_goto (tgt := 136) hM d_Mo_hold_132 (by decide) ?_
              refine x_sub [3, 4, 6] rfl ?_
              exact JJ _ (Eq.symm (Eq.trans (if_neg q2) (Eq.trans (if_neg q3) (Eq.trans (if_neg q4) (Eq.trans (if_pos q5) (if_pos q11))))))
        · refine x_iload hM d_Mo_hold_93 2 rfl ?_
          refine x_iload hM d_Mo_hold_95 0 rfl ?_
          refine x_icmp_eq (tgt := 135) hM d_Mo_hold_97 (by decide) (fun q12 => ?_) (fun q12 => ?_)
          · refine x_iconst (v := 0) hM d_Mo_hold_135 (by decide) ?_
            refine x_sub [3, 4, 6] rfl ?_
            exact JJ _ (Eq.symm (Eq.trans (if_neg q2) (Eq.trans (if_neg q3) (Eq.trans (if_pos q4) (if_pos q12)))))
          · refine x_goto (tgt := 131) hM d_Mo_hold_100 (by decide) ?_
            refine x_iconst (v := 1) hM d_Mo_hold_131 (by decide) ?_
            refine x_goto (tgt := 136) hM d_Mo_hold_132 (by decide) ?_
            refine x_sub [3, 4, 6] rfl ?_
            exact JJ _ (Eq.symm (Eq.trans (if_neg q2) (Eq.trans (if_neg q3) (Eq.trans (if_pos q4) (if_neg q12)))))
      · refine x_iload hM d_Mo_hold_77 2 rfl ?_
        refine x_iload hM d_Mo_hold_79 0 rfl ?_
        refine x_icmp_ne (tgt := 135) hM d_Mo_hold_81 (by decide) (fun q13 => ?_) (fun q13 => ?_)
        · refine x_iconst (v := 0) hM d_Mo_hold_135 (by decide) ?_
          refine x_sub [3, 4, 6] rfl ?_
          exact JJ _ (Eq.symm (Eq.trans (if_neg q2) (Eq.trans (if_pos q3) (if_neg q13))))
        · refine x_goto (tgt := 131) hM d_Mo_hold_84 (by decide) ?_
          refine x_iconst (v := 1) hM d_Mo_hold_131 (by decide) ?_
          refine x_goto (tgt := 136) hM d_Mo_hold_132 (by decide) ?_
          refine x_sub [3, 4, 6] rfl ?_
          exact JJ _ (Eq.symm (Eq.trans (if_neg q2) (Eq.trans (if_pos q3) (if_pos q13))))
theorem d_Mo_goes_0 : decode b_Mo_goes 0 = .ok (.iconst 0, 1) := by decide +kernel
theorem d_Mo_goes_1 : decode b_Mo_goes 1 = .ok (.istore_n 2, 1) := by decide +kernel
theorem d_Mo_goes_2 : decode b_Mo_goes 2 = .ok (.iload_n 2, 1) := by decide +kernel
theorem d_Mo_goes_3 : decode b_Mo_goes 3 = .ok (.aload_n 0, 1) := by decide +kernel
theorem d_Mo_goes_4 : decode b_Mo_goes 4 = .ok (.getfield 105, 3) := by decide +kernel
theorem d_Mo_goes_7 : decode b_Mo_goes 7 = .ok (.if_icmp .ge 21, 3) := by decide +kernel
theorem d_Mo_goes_10 : decode b_Mo_goes 10 = .ok (.aload_n 0, 1) := by decide +kernel
theorem d_Mo_goes_11 : decode b_Mo_goes 11 = .ok (.getfield 31, 3) := by decide +kernel
theorem d_Mo_goes_14 : decode b_Mo_goes 14 = .ok (.iload_n 2, 1) := by decide +kernel
theorem d_Mo_goes_15 : decode b_Mo_goes 15 = .ok (.aload_n 0, 1) := by decide +kernel
theorem d_Mo_goes_16 : decode b_Mo_goes 16 = .ok (.getfield 28, 3) := by decide +kernel
theorem d_Mo_goes_19 : decode b_Mo_goes 19 = .ok (.iload_n 2, 1) := by decide +kernel
theorem d_Mo_goes_20 : decode b_Mo_goes 20 = .ok (.iaload, 1) := by decide +kernel
theorem d_Mo_goes_21 : decode b_Mo_goes 21 = .ok (.iastore, 1) := by decide +kernel
theorem d_Mo_goes_22 : decode b_Mo_goes 22 = .ok (.iinc 2 1, 3) := by decide +kernel
theorem d_Mo_goes_25 : decode b_Mo_goes 25 = .ok (.goto (-23), 3) := by decide +kernel
theorem d_Mo_goes_28 : decode b_Mo_goes 28 = .ok (.iconst 0, 1) := by decide +kernel
theorem d_Mo_goes_29 : decode b_Mo_goes 29 = .ok (.istore_n 2, 1) := by decide +kernel
theorem d_Mo_goes_30 : decode b_Mo_goes 30 = .ok (.iload_n 2, 1) := by decide +kernel
theorem d_Mo_goes_31 : decode b_Mo_goes 31 = .ok (.aload_n 0, 1) := by decide +kernel
theorem d_Mo_goes_32 : decode b_Mo_goes 32 = .ok (.getfield 22, 3) := by decide +kernel
theorem d_Mo_goes_35 : decode b_Mo_goes 35 = .ok (.iload_n 1, 1) := by decide +kernel
theorem d_Mo_goes_36 : decode b_Mo_goes 36 = .ok (.iaload, 1) := by decide +kernel
theorem d_Mo_goes_37 : decode b_Mo_goes 37 = .ok (.if_icmp .ge 112, 3) := by decide +kernel
theorem d_Mo_goes_40 : decode b_Mo_goes 40 = .ok (.aload_n 0, 1) := by decide +kernel
theorem d_Mo_goes_41 : decode b_Mo_goes 41 = .ok (.getfield 25, 3) := by decide +kernel
theorem d_Mo_goes_44 : decode b_Mo_goes 44 = .ok (.bipush 12, 2) := by decide +kernel
theorem d_Mo_goes_46 : decode b_Mo_goes 46 = .ok (.iload_n 1, 1) := by decide +kernel
theorem d_Mo_goes_47 : decode b_Mo_goes 47 = .ok (.imul, 1) := by decide +kernel
theorem d_Mo_goes_48 : decode b_Mo_goes 48 = .ok (.iconst 3, 1) := by decide +kernel
theorem d_Mo_goes_49 : decode b_Mo_goes 49 = .ok (.iload_n 2, 1) := by decide +kernel
theorem d_Mo_goes_50 : decode b_Mo_goes 50 = .ok (.imul, 1) := by decide +kernel
theorem d_Mo_goes_51 : decode b_Mo_goes 51 = .ok (.iadd, 1) := by decide +kernel
theorem d_Mo_goes_52 : decode b_Mo_goes 52 = .ok (.iaload, 1) := by decide +kernel
theorem d_Mo_goes_53 : decode b_Mo_goes 53 = .ok (.istore_n 3, 1) := by decide +kernel
theorem d_Mo_goes_54 : decode b_Mo_goes 54 = .ok (.aload_n 0, 1) := by decide +kernel
theorem d_Mo_goes_55 : decode b_Mo_goes 55 = .ok (.getfield 25, 3) := by decide +kernel
theorem d_Mo_goes_58 : decode b_Mo_goes 58 = .ok (.bipush 12, 2) := by decide +kernel
theorem d_Mo_goes_60 : decode b_Mo_goes 60 = .ok (.iload_n 1, 1) := by decide +kernel
theorem d_Mo_goes_61 : decode b_Mo_goes 61 = .ok (.imul, 1) := by decide +kernel
theorem d_Mo_goes_62 : decode b_Mo_goes 62 = .ok (.iconst 3, 1) := by decide +kernel
theorem d_Mo_goes_63 : decode b_Mo_goes 63 = .ok (.iload_n 2, 1) := by decide +kernel
theorem d_Mo_goes_64 : decode b_Mo_goes 64 = .ok (.imul, 1) := by decide +kernel
theorem d_Mo_goes_65 : decode b_Mo_goes 65 = .ok (.iadd, 1) := by decide +kernel
theorem d_Mo_goes_66 : decode b_Mo_goes 66 = .ok (.iconst 1, 1) := by decide +kernel
theorem d_Mo_goes_67 : decode b_Mo_goes 67 = .ok (.iadd, 1) := by decide +kernel
theorem d_Mo_goes_68 : decode b_Mo_goes 68 = .ok (.iaload, 1) := by decide +kernel
theorem d_Mo_goes_69 : decode b_Mo_goes 69 = .ok (.istore 4, 2) := by decide +kernel
theorem d_Mo_goes_71 : decode b_Mo_goes 71 = .ok (.aload_n 0, 1) := by decide +kernel
theorem d_Mo_goes_72 : decode b_Mo_goes 72 = .ok (.getfield 25, 3) := by decide +kernel
theorem d_Mo_goes_75 : decode b_Mo_goes 75 = .ok (.bipush 12, 2) := by decide +kernel
theorem d_Mo_goes_77 : decode b_Mo_goes 77 = .ok (.iload_n 1, 1) := by decide +kernel
theorem d_Mo_goes_78 : decode b_Mo_goes 78 = .ok (.imul, 1) := by decide +kernel
theorem d_Mo_goes_79 : decode b_Mo_goes 79 = .ok (.iconst 3, 1) := by decide +kernel
theorem d_Mo_goes_80 : decode b_Mo_goes 80 = .ok (.iload_n 2, 1) := by decide +kernel
theorem d_Mo_goes_81 : decode b_Mo_goes 81 = .ok (.imul, 1) := by decide +kernel
theorem d_Mo_goes_82 : decode b_Mo_goes 82 = .ok (.iadd, 1) := by decide +kernel
theorem d_Mo_goes_83 : decode b_Mo_goes 83 = .ok (.iconst 2, 1) := by decide +kernel
theorem d_Mo_goes_84 : decode b_Mo_goes 84 = .ok (.iadd, 1) := by decide +kernel
theorem d_Mo_goes_85 : decode b_Mo_goes 85 = .ok (.iaload, 1) := by decide +kernel
theorem d_Mo_goes_86 : decode b_Mo_goes 86 = .ok (.istore 5, 2) := by decide +kernel
theorem d_Mo_goes_88 : decode b_Mo_goes 88 = .ok (.aload_n 0, 1) := by decide +kernel
theorem d_Mo_goes_89 : decode b_Mo_goes 89 = .ok (.getfield 31, 3) := by decide +kernel
theorem d_Mo_goes_92 : decode b_Mo_goes 92 = .ok (.iload_n 3, 1) := by decide +kernel
theorem d_Mo_goes_93 : decode b_Mo_goes 93 = .ok (.iload 4, 2) := by decide +kernel
theorem d_Mo_goes_95 : decode b_Mo_goes 95 = .ok (.ifCond .ne 8, 3) := by decide +kernel
theorem d_Mo_goes_98 : decode b_Mo_goes 98 = .ok (.iload 5, 2) := by decide +kernel
theorem d_Mo_goes_100 : decode b_Mo_goes 100 = .ok (.goto 42, 3) := by decide +kernel
theorem d_Mo_goes_103 : decode b_Mo_goes 103 = .ok (.iload 4, 2) := by decide +kernel
theorem d_Mo_goes_105 : decode b_Mo_goes 105 = .ok (.iconst 1, 1) := by decide +kernel
theorem d_Mo_goes_106 : decode b_Mo_goes 106 = .ok (.if_icmp .ne 20, 3) := by decide +kernel
theorem d_Mo_goes_109 : decode b_Mo_goes 109 = .ok (.aload_n 0, 1) := by decide +kernel
theorem d_Mo_goes_110 : decode b_Mo_goes 110 = .ok (.getfield 28, 3) := by decide +kernel
theorem d_Mo_goes_113 : decode b_Mo_goes 113 = .ok (.iload 5, 2) := by decide +kernel
theorem d_Mo_goes_115 : decode b_Mo_goes 115 = .ok (.iaload, 1) := by decide +kernel
theorem d_Mo_goes_116 : decode b_Mo_goes 116 = .ok (.aload_n 0, 1) := by decide +kernel
theorem d_Mo_goes_117 : decode b_Mo_goes 117 = .ok (.getfield 7, 3) := by decide +kernel
theorem d_Mo_goes_120 : decode b_Mo_goes 120 = .ok (.iload_n 3, 1) := by decide +kernel
theorem d_Mo_goes_121 : decode b_Mo_goes 121 = .ok (.iaload, 1) := by decide +kernel
theorem d_Mo_goes_122 : decode b_Mo_goes 122 = .ok (.irem, 1) := by decide +kernel
theorem d_Mo_goes_123 : decode b_Mo_goes 123 = .ok (.goto 19, 3) := by decide +kernel
theorem d_Mo_goes_126 : decode b_Mo_goes 126 = .ok (.aload_n 0, 1) := by decide +kernel
theorem d_Mo_goes_127 : decode b_Mo_goes 127 = .ok (.getfield 28, 3) := by decide +kernel
theorem d_Mo_goes_130 : decode b_Mo_goes 130 = .ok (.iload_n 3, 1) := by decide +kernel
theorem d_Mo_goes_131 : decode b_Mo_goes 131 = .ok (.iaload, 1) := by decide +kernel
theorem d_Mo_goes_132 : decode b_Mo_goes 132 = .ok (.iload 5, 2) := by decide +kernel
theorem d_Mo_goes_134 : decode b_Mo_goes 134 = .ok (.iadd, 1) := by decide +kernel
theorem d_Mo_goes_135 : decode b_Mo_goes 135 = .ok (.aload_n 0, 1) := by decide +kernel
theorem d_Mo_goes_136 : decode b_Mo_goes 136 = .ok (.getfield 7, 3) := by decide +kernel
theorem d_Mo_goes_139 : decode b_Mo_goes 139 = .ok (.iload_n 3, 1) := by decide +kernel
theorem d_Mo_goes_140 : decode b_Mo_goes 140 = .ok (.iaload, 1) := by decide +kernel
theorem d_Mo_goes_141 : decode b_Mo_goes 141 = .ok (.irem, 1) := by decide +kernel
theorem d_Mo_goes_142 : decode b_Mo_goes 142 = .ok (.iastore, 1) := by decide +kernel
theorem d_Mo_goes_143 : decode b_Mo_goes 143 = .ok (.iinc 2 1, 3) := by decide +kernel
theorem d_Mo_goes_146 : decode b_Mo_goes 146 = .ok (.goto (-116), 3) := by decide +kernel
theorem d_Mo_goes_149 : decode b_Mo_goes 149 = .ok (.aload_n 0, 1) := by decide +kernel
theorem d_Mo_goes_150 : decode b_Mo_goes 150 = .ok (.invokevirtual 143, 3) := by decide +kernel
theorem d_Mo_goes_153 : decode b_Mo_goes 153 = .ok (.ireturn, 1) := by decide +kernel
set_option maxRecDepth 100000 in
set_option maxHeartbeats 4000000 in
theorem S_Mo_goes_0 {G : Gc} {M : Mc} {Q : State → Prop} {K : Option Value → Hp → Prop} (hG : gok G) (hM : mok G M r_Mo_goes Q K) (v0 : Nat) (v1 : Int32) (h : Hp) (F : X G M Q 2 [(0, .ref v0), (1, .int v1), (2, .int 0)] [] h) : X G M Q 0 [(0, .ref v0), (1, .int v1)] [] h := by
  refine x_iconst (v := 0) hM d_Mo_goes_0 (by decide) ?_
  refine x_istore_n (lv2 := [(2, .int 0), (0, .ref v0), (1, .int v1)]) hM d_Mo_goes_1 rfl (Nat.le_of_ble_eq_true rfl) rfl ?_
  refine x_sub [1, 2, 0] rfl ?_
  exact F
set_option maxRecDepth 100000 in
set_option maxHeartbeats 4000000 in
theorem S_Mo_goes_2 {G : Gc} {M : Mc} {Q : State → Prop} {K : Option Value → Hp → Prop} (hG : gok G) (hM : mok G M r_Mo_goes Q K) (v0 : Nat) (v1 : Int32) (v2 : Int32) (h : Hp) (F : kT h v0 = 12 ∧ (((kI h v0 0) ≤ v2 → X G M Q 30 [(0, .ref v0), (1, .int v1), (2, .int 0)] [] h) ∧ (¬ (kI h v0 0) ≤ v2 → (kT h v0 = 12 ∧ kR h v0 11 = some (rf h v0 11) ∧ (kT h v0 = 12 ∧ kR h v0 10 = some (rf h v0 10) ∧ (kT h (rf h v0 10) = 50 ∧ vp_in v2 (kN h (rf h v0 10)) ∧ (kT h (rf h v0 11) = 50 ∧ vp_in v2 (kN h (rf h v0 11)) ∧ (∀ h1 : Hp, h1 = wI h (rf h v0 11) (Int32.toNatClampNeg v2) (kI h (rf h v0 10) (Int32.toNatClampNeg v2)) → X G M Q 2 [(0, .ref v0), (1, .int v1), (2, .int (v2 + 1))] [] h1)))))))) : X G M Q 2 [(0, .ref v0), (1, .int v1), (2, .int v2)] [] h := by
  refine x_iload_n hM d_Mo_goes_2 rfl 2 rfl ?_
  refine x_aload_n hM d_Mo_goes_3 rfl 0 rfl ?_
  obtain ⟨c11, F⟩ := F
  refine x_geti hG hM ck_Mo 0 (Nat.le_of_ble_eq_true rfl) rfl rfl w_897 rfl d_Mo_goes_4 c11 ?_
  refine x_icmp_ge (tgt := 28) hM d_Mo_goes_7 (by decide) (fun q10 => ?_) (fun q10 => ?_)
  · replace F := F.1 q10
    refine x_iconst (v := 0) hM d_Mo_goes_28 (by decide) ?_
    refine x_istore_n (lv2 := [(2, .int 0), (0, .ref v0), (1, .int v1)]) hM d_Mo_goes_29 rfl (Nat.le_of_ble_eq_true rfl) rfl ?_
    refine x_sub [1, 2, 0] rfl ?_
    exact F
  · replace F := F.2 q10
    refine x_aload_n hM d_Mo_goes_10 rfl 0 rfl ?_
    obtain ⟨c8, F⟩ := F
    obtain ⟨c9, F⟩ := F
    refine x_getr hG hM ck_Mo 11 (Nat.le_of_ble_eq_true rfl) rfl rfl w_908 rfl d_Mo_goes_11 c8 c9 ?_
    refine x_iload_n hM d_Mo_goes_14 rfl 2 rfl ?_
    refine x_aload_n hM d_Mo_goes_15 rfl 0 rfl ?_
    obtain ⟨c6, F⟩ := F
    obtain ⟨c7, F⟩ := F
    refine x_getr hG hM ck_Mo 10 (Nat.le_of_ble_eq_true rfl) rfl rfl w_907 rfl d_Mo_goes_16 c6 c7 ?_
    refine x_iload_n hM d_Mo_goes_19 rfl 2 rfl ?_
    obtain ⟨c4, F⟩ := F
    obtain ⟨c5, F⟩ := F
    refine x_iaload hG hM d_Mo_goes_20 c4 c5 ?_
    obtain ⟨c2, F⟩ := F
    obtain ⟨c3, F⟩ := F
    obtain ⟨h1, eh1⟩ : ∃ z : Hp, z = wI h (rf h v0 11) (Int32.toNatClampNeg v2) (kI h (rf h v0 10) (Int32.toNatClampNeg v2)) := ⟨_, rfl⟩
    replace F := F h1 eh1
    refine x_iastore hG hM d_Mo_goes_21 c2 c3 ?_
    rw [← eh1]
    clear eh1
    refine x_iinc (v := (v2 + 1)) (lv2 := [(2, .int (v2 + 1)), (0, .ref v0), (1, .int v1)]) hM d_Mo_goes_22 (j := 2) rfl rfl (Nat.le_of_ble_eq_true rfl) rfl ?_
    refine x_goto (tgt := 2) hM d_Mo_goes_25 (by decide) ?_
    refine x_sub [1, 2, 0] rfl ?_
    exact F
set_option maxRecDepth 100000 in
set_option maxHeartbeats 4000000 in
theorem S_Mo_goes_30 {G : Gc} {M : Mc} {Q : State → Prop} {K : Option Value → Hp → Prop} (hG : gok G) (hM : mok G M r_Mo_goes Q K) (v0 : Nat) (v1 : Int32) (v2 : Int32) (h : Hp) (F : kT h v0 = 12 ∧ kR h v0 7 = some (rf h v0 7) ∧ (kT h (rf h v0 7) = 50 ∧ vp_in v1 (kN h (rf h v0 7)) ∧ (((kI h (rf h v0 7) (Int32.toNatClampNeg v1)) ≤ v2 → (kT h v0 = 12 ∧ sem G r_Mo_closeThen [.ref v0] h (fun u2 h1 => ∃ x3 : Int32, u2 = some (.int x3) ∧ K (some (.int x3)) h1))) ∧ (¬ (kI h (rf h v0 7) (Int32.toNatClampNeg v1)) ≤ v2 → (kT h v0 = 12 ∧ kR h v0 8 = some (rf h v0 8) ∧ (kT h (rf h v0 8) = 50 ∧ vp_in ((12 * v1) + (3 * v2)) (kN h (rf h v0 8)) ∧ (kT h v0 = 12 ∧ kR h v0 8 = some (rf h v0 8) ∧ (kT h (rf h v0 8) = 50 ∧ vp_in (((12 * v1) + (3 * v2)) + 1) (kN h (rf h v0 8)) ∧ (kT h v0 = 12 ∧ kR h v0 8 = some (rf h v0 8) ∧ (kT h (rf h v0 8) = 50 ∧ vp_in (((12 * v1) + (3 * v2)) + 2) (kN h (rf h v0 8)) ∧ (kT h v0 = 12 ∧ kR h v0 11 = some (rf h v0 11) ∧ ((¬ (kI h (rf h v0 8) (Int32.toNatClampNeg (((12 * v1) + (3 * v2)) + 1))) = 0 → (((kI h (rf h v0 8) (Int32.toNatClampNeg (((12 * v1) + (3 * v2)) + 1))) = 1 → (kT h v0 = 12 ∧ kR h v0 10 = some (rf h v0 10) ∧ kT h (rf h v0 10) = 50 ∧ vp_in (kI h (rf h v0 8) (Int32.toNatClampNeg (((12 * v1) + (3 * v2)) + 2))) (kN h (rf h v0 10)) ∧ kT h v0 = 12 ∧ kR h v0 1 = some (rf h v0 1) ∧ kT h (rf h v0 1) = 50 ∧ vp_in (kI h (rf h v0 8) (Int32.toNatClampNeg ((12 * v1) + (3 * v2)))) (kN h (rf h v0 1)) ∧ ¬ (kI h (rf h v0 1) (Int32.toNatClampNeg (kI h (rf h v0 8) (Int32.toNatClampNeg ((12 * v1) + (3 * v2)))))) = 0)) ∧ (¬ (kI h (rf h v0 8) (Int32.toNatClampNeg (((12 * v1) + (3 * v2)) + 1))) = 1 → (kT h v0 = 12 ∧ kR h v0 10 = some (rf h v0 10) ∧ kT h (rf h v0 10) = 50 ∧ vp_in (kI h (rf h v0 8) (Int32.toNatClampNeg ((12 * v1) + (3 * v2)))) (kN h (rf h v0 10)) ∧ kT h v0 = 12 ∧ kR h v0 1 = some (rf h v0 1) ∧ kT h (rf h v0 1) = 50 ∧ vp_in (kI h (rf h v0 8) (Int32.toNatClampNeg ((12 * v1) + (3 * v2)))) (kN h (rf h v0 1)) ∧ ¬ (kI h (rf h v0 1) (Int32.toNatClampNeg (kI h (rf h v0 8) (Int32.toNatClampNeg ((12 * v1) + (3 * v2)))))) = 0)))) ∧ (∀ z5 : Int32, z5 = (if (kI h (rf h v0 8) (Int32.toNatClampNeg (((12 * v1) + (3 * v2)) + 1))) = 0 then (kI h (rf h v0 8) (Int32.toNatClampNeg (((12 * v1) + (3 * v2)) + 2))) else (if (kI h (rf h v0 8) (Int32.toNatClampNeg (((12 * v1) + (3 * v2)) + 1))) = 1 then ((kI h (rf h v0 10) (Int32.toNatClampNeg (kI h (rf h v0 8) (Int32.toNatClampNeg (((12 * v1) + (3 * v2)) + 2))))) - (kI h (rf h v0 10) (Int32.toNatClampNeg (kI h (rf h v0 8) (Int32.toNatClampNeg (((12 * v1) + (3 * v2)) + 2))))) / (kI h (rf h v0 1) (Int32.toNatClampNeg (kI h (rf h v0 8) (Int32.toNatClampNeg ((12 * v1) + (3 * v2)))))) * (kI h (rf h v0 1) (Int32.toNatClampNeg (kI h (rf h v0 8) (Int32.toNatClampNeg ((12 * v1) + (3 * v2))))))) else (((kI h (rf h v0 10) (Int32.toNatClampNeg (kI h (rf h v0 8) (Int32.toNatClampNeg ((12 * v1) + (3 * v2)))))) + (kI h (rf h v0 8) (Int32.toNatClampNeg (((12 * v1) + (3 * v2)) + 2)))) - ((kI h (rf h v0 10) (Int32.toNatClampNeg (kI h (rf h v0 8) (Int32.toNatClampNeg ((12 * v1) + (3 * v2)))))) + (kI h (rf h v0 8) (Int32.toNatClampNeg (((12 * v1) + (3 * v2)) + 2)))) / (kI h (rf h v0 1) (Int32.toNatClampNeg (kI h (rf h v0 8) (Int32.toNatClampNeg ((12 * v1) + (3 * v2)))))) * (kI h (rf h v0 1) (Int32.toNatClampNeg (kI h (rf h v0 8) (Int32.toNatClampNeg ((12 * v1) + (3 * v2))))))))) → (kT h (rf h v0 11) = 50 ∧ vp_in (kI h (rf h v0 8) (Int32.toNatClampNeg ((12 * v1) + (3 * v2)))) (kN h (rf h v0 11)) ∧ (∀ h6 : Hp, h6 = wI h (rf h v0 11) (Int32.toNatClampNeg (kI h (rf h v0 8) (Int32.toNatClampNeg ((12 * v1) + (3 * v2))))) z5 → X G M Q 30 [(0, .ref v0), (1, .int v1), (2, .int (v2 + 1))] [] h6))))))))))))))) : X G M Q 30 [(0, .ref v0), (1, .int v1), (2, .int v2)] [] h := by
  refine x_iload_n hM d_Mo_goes_30 rfl 2 rfl ?_
  refine x_aload_n hM d_Mo_goes_31 rfl 0 rfl ?_
  obtain ⟨c46, F⟩ := F
  obtain ⟨c47, F⟩ := F
  refine x_getr hG hM ck_Mo 7 (Nat.le_of_ble_eq_true rfl) rfl rfl w_904 rfl d_Mo_goes_32 c46 c47 ?_
  refine x_iload_n hM d_Mo_goes_35 rfl 1 rfl ?_
  obtain ⟨c44, F⟩ := F
  obtain ⟨c45, F⟩ := F
  refine x_iaload hG hM d_Mo_goes_36 c44 c45 ?_
  refine x_icmp_ge (tgt := 149) hM d_Mo_goes_37 (by decide) (fun q43 => ?_) (fun q43 => ?_)
  · replace F := F.1 q43
    refine x_aload_n hM d_Mo_goes_149 rfl 0 rfl ?_
    obtain ⟨c4, F⟩ := F
    refine x_callV hG hM (r' := r_Mo_closeThen) (ci := 11) [] rfl rfl (Nat.le_of_ble_eq_true rfl) yk_Mo_closeThen ⟨Nat.le_of_ble_eq_true rfl, Nat.le_of_ble_eq_true rfl⟩ w_1104 w_1106 ws_Mo_closeThen rfl rfl (Nat.le_of_ble_eq_true rfl) d_Mo_goes_150 c4 (sem_mono F ?_)
    intro u2 h1 F
    obtain ⟨x3, rfl, F⟩ := F
    exact x_ireturn hM d_Mo_goes_153 rfl F
  · replace F := F.2 q43
    refine x_aload_n hM d_Mo_goes_40 rfl 0 rfl ?_
    obtain ⟨c41, F⟩ := F
    obtain ⟨c42, F⟩ := F
    refine x_getr hG hM ck_Mo 8 (Nat.le_of_ble_eq_true rfl) rfl rfl w_905 rfl d_Mo_goes_41 c41 c42 ?_
    refine x_bipush (v := 12) hM d_Mo_goes_44 (by decide) ?_
    refine x_iload_n hM d_Mo_goes_46 rfl 1 rfl ?_
    refine x_imul hM d_Mo_goes_47 ?_
    refine x_iconst (v := 3) hM d_Mo_goes_48 (by decide) ?_
    refine x_iload_n hM d_Mo_goes_49 rfl 2 rfl ?_
    refine x_imul hM d_Mo_goes_50 ?_
    refine x_iadd hM d_Mo_goes_51 ?_
    obtain ⟨c39, F⟩ := F
    obtain ⟨c40, F⟩ := F
    refine x_iaload hG hM d_Mo_goes_52 c39 c40 ?_
    refine x_istore_n (lv2 := [(3, .int (kI h (rf h v0 8) (Int32.toNatClampNeg ((12 * v1) + (3 * v2))))), (0, .ref v0), (1, .int v1), (2, .int v2)]) hM d_Mo_goes_53 rfl (Nat.le_of_ble_eq_true rfl) rfl ?_
    refine x_aload_n hM d_Mo_goes_54 rfl 1 rfl ?_
    obtain ⟨c37, F⟩ := F
    obtain ⟨c38, F⟩ := F
    refine x_getr hG hM ck_Mo 8 (Nat.le_of_ble_eq_true rfl) rfl rfl w_905 rfl d_Mo_goes_55 c37 c38 ?_
    refine x_bipush (v := 12) hM d_Mo_goes_58 (by decide) ?_
    refine x_iload_n hM d_Mo_goes_60 rfl 2 rfl ?_
    refine x_imul hM d_Mo_goes_61 ?_
    refine x_iconst (v := 3) hM d_Mo_goes_62 (by decide) ?_
    refine x_iload_n hM d_Mo_goes_63 rfl 3 rfl ?_
    refine x_imul hM d_Mo_goes_64 ?_
    refine x_iadd hM d_Mo_goes_65 ?_
    refine x_iconst (v := 1) hM d_Mo_goes_66 (by decide) ?_
    refine x_iadd hM d_Mo_goes_67 ?_
    obtain ⟨c35, F⟩ := F
    obtain ⟨c36, F⟩ := F
    refine x_iaload hG hM d_Mo_goes_68 c35 c36 ?_
    refine x_istore (lv2 := [(4, .int (kI h (rf h v0 8) (Int32.toNatClampNeg (((12 * v1) + (3 * v2)) + 1)))), (3, .int (kI h (rf h v0 8) (Int32.toNatClampNeg ((12 * v1) + (3 * v2))))), (0, .ref v0), (1, .int v1), (2, .int v2)]) hM d_Mo_goes_69 (Nat.le_of_ble_eq_true rfl) rfl ?_
    refine x_aload_n hM d_Mo_goes_71 rfl 2 rfl ?_
    obtain ⟨c33, F⟩ := F
    obtain ⟨c34, F⟩ := F
    refine x_getr hG hM ck_Mo 8 (Nat.le_of_ble_eq_true rfl) rfl rfl w_905 rfl d_Mo_goes_72 c33 c34 ?_
    refine x_bipush (v := 12) hM d_Mo_goes_75 (by decide) ?_
    refine x_iload_n hM d_Mo_goes_77 rfl 3 rfl ?_
    refine x_imul hM d_Mo_goes_78 ?_
    refine x_iconst (v := 3) hM d_Mo_goes_79 (by decide) ?_
    refine x_iload_n hM d_Mo_goes_80 rfl 4 rfl ?_
    refine x_imul hM d_Mo_goes_81 ?_
    refine x_iadd hM d_Mo_goes_82 ?_
    refine x_iconst (v := 2) hM d_Mo_goes_83 (by decide) ?_
    refine x_iadd hM d_Mo_goes_84 ?_
    obtain ⟨c31, F⟩ := F
    obtain ⟨c32, F⟩ := F
    refine x_iaload hG hM d_Mo_goes_85 c31 c32 ?_
    refine x_istore (lv2 := [(5, .int (kI h (rf h v0 8) (Int32.toNatClampNeg (((12 * v1) + (3 * v2)) + 2)))), (4, .int (kI h (rf h v0 8) (Int32.toNatClampNeg (((12 * v1) + (3 * v2)) + 1)))), (3, .int (kI h (rf h v0 8) (Int32.toNatClampNeg ((12 * v1) + (3 * v2))))), (0, .ref v0), (1, .int v1), (2, .int v2)]) hM d_Mo_goes_86 (Nat.le_of_ble_eq_true rfl) rfl ?_
    refine x_aload_n hM d_Mo_goes_88 rfl 3 rfl ?_
    obtain ⟨c29, F⟩ := F
    obtain ⟨c30, F⟩ := F
    refine x_getr hG hM ck_Mo 11 (Nat.le_of_ble_eq_true rfl) rfl rfl w_908 rfl d_Mo_goes_89 c29 c30 ?_
    refine x_iload_n hM d_Mo_goes_92 rfl 2 rfl ?_
    refine x_iload hM d_Mo_goes_93 1 rfl ?_
    obtain ⟨S, F⟩ := F
    have JJ : ∀ (z5 : Int32) (ez5 : z5 = (if (kI h (rf h v0 8) (Int32.toNatClampNeg (((12 * v1) + (3 * v2)) + 1))) = 0 then (kI h (rf h v0 8) (Int32.toNatClampNeg (((12 * v1) + (3 * v2)) + 2))) else (if (kI h (rf h v0 8) (Int32.toNatClampNeg (((12 * v1) + (3 * v2)) + 1))) = 1 then ((kI h (rf h v0 10) (Int32.toNatClampNeg (kI h (rf h v0 8) (Int32.toNatClampNeg (((12 * v1) + (3 * v2)) + 2))))) - (kI h (rf h v0 10) (Int32.toNatClampNeg (kI h (rf h v0 8) (Int32.toNatClampNeg (((12 * v1) + (3 * v2)) + 2))))) / (kI h (rf h v0 1) (Int32.toNatClampNeg (kI h (rf h v0 8) (Int32.toNatClampNeg ((12 * v1) + (3 * v2)))))) * (kI h (rf h v0 1) (Int32.toNatClampNeg (kI h (rf h v0 8) (Int32.toNatClampNeg ((12 * v1) + (3 * v2))))))) else (((kI h (rf h v0 10) (Int32.toNatClampNeg (kI h (rf h v0 8) (Int32.toNatClampNeg ((12 * v1) + (3 * v2)))))) + (kI h (rf h v0 8) (Int32.toNatClampNeg (((12 * v1) + (3 * v2)) + 2)))) - ((kI h (rf h v0 10) (Int32.toNatClampNeg (kI h (rf h v0 8) (Int32.toNatClampNeg ((12 * v1) + (3 * v2)))))) + (kI h (rf h v0 8) (Int32.toNatClampNeg (((12 * v1) + (3 * v2)) + 2)))) / (kI h (rf h v0 1) (Int32.toNatClampNeg (kI h (rf h v0 8) (Int32.toNatClampNeg ((12 * v1) + (3 * v2)))))) * (kI h (rf h v0 1) (Int32.toNatClampNeg (kI h (rf h v0 8) (Int32.toNatClampNeg ((12 * v1) + (3 * v2)))))))))), X G M Q 142 [(0, .ref v0), (1, .int v1), (2, .int v2)] [.int z5, .int (kI h (rf h v0 8) (Int32.toNatClampNeg ((12 * v1) + (3 * v2)))), .ref (rf h v0 11)] h := by
      intro z5 ez5
      replace F := F _ ez5
      obtain ⟨c7, F⟩ := F
      obtain ⟨c8, F⟩ := F
      obtain ⟨h6, eh6⟩ : ∃ z : Hp, z = wI h (rf h v0 11) (Int32.toNatClampNeg (kI h (rf h v0 8) (Int32.toNatClampNeg ((12 * v1) + (3 * v2))))) z5 := ⟨_, rfl⟩
      replace F := F h6 eh6
      refine x_iastore hG hM d_Mo_goes_142 c7 c8 ?_
      rw [← eh6]
      clear eh6
      refine x_iinc (v := (v2 + 1)) (lv2 := [(2, .int (v2 + 1)), (0, .ref v0), (1, .int v1)]) hM d_Mo_goes_143 (j := 2) rfl rfl (Nat.le_of_ble_eq_true rfl) rfl ?_
      refine x_goto (tgt := 30) hM d_Mo_goes_146 (by decide) ?_
      refine x_sub [1, 2, 0] rfl ?_
      exact F
    refine x_if_ne (tgt := 103) hM d_Mo_goes_95 (by decide) (fun q9 => ?_) (fun q9 => ?_)
    · replace S := S q9
      refine x_iload hM d_Mo_goes_103 1 rfl ?_
      refine x_iconst (v := 1) hM d_Mo_goes_105 (by decide) ?_
      refine x_icmp_ne (tgt := 126) hM d_Mo_goes_106 (by decide) (fun q10 => ?_) (fun q10 => ?_)
      · replace S := S.2 q10
        refine x_aload_n hM d_Mo_goes_126 rfl 3 rfl ?_
        obtain ⟨c11, S⟩ := S
        obtain ⟨c12, S⟩ := S
        refine x_getr hG hM ck_Mo 10 (Nat.le_of_ble_eq_true rfl) rfl rfl w_907 rfl d_Mo_goes_127 c11 c12 ?_
        refine x_iload_n hM d_Mo_goes_130 rfl 2 rfl ?_
        obtain ⟨c13, S⟩ := S
        obtain ⟨c14, S⟩ := S
        refine x_iaload hG hM d_Mo_goes_131 c13 c14 ?_
        refine x_iload hM d_Mo_goes_132 0 rfl ?_
        refine x_iadd hM d_Mo_goes_134 ?_
        refine x_aload_n hM d_Mo_goes_135 rfl 3 rfl ?_
        obtain ⟨c15, S⟩ := S
        obtain ⟨c16, S⟩ := S
        refine x_getr hG hM ck_Mo 1 (Nat.le_of_ble_eq_true rfl) rfl rfl w_898 rfl d_Mo_goes_136 c15 c16 ?_
        refine x_iload_n hM d_Mo_goes_139 rfl 2 rfl ?_
        obtain ⟨c17, S⟩ := S
        obtain ⟨c18, S⟩ := S
        refine x_iaload hG hM d_Mo_goes_140 c17 c18 ?_
        have c19 := S
        refine x_irem hM d_Mo_goes_141 c19 ?_
        refine x_sub [3, 4, 5] rfl ?_
        exact JJ _ (Eq.symm (Eq.trans (if_neg q9) (if_neg q10)))
      · replace S := S.1 q10
        refine x_aload_n hM d_Mo_goes_109 rfl 3 rfl ?_
        obtain ⟨c20, S⟩ := S
        obtain ⟨c21, S⟩ := S
        refine x_getr hG hM ck_Mo 10 (Nat.le_of_ble_eq_true rfl) rfl rfl w_907 rfl d_Mo_goes_110 c20 c21 ?_
        refine x_iload hM d_Mo_goes_113 0 rfl ?_
        obtain ⟨c22, S⟩ := S
        obtain ⟨c23, S⟩ := S
        refine x_iaload hG hM d_Mo_goes_115 c22 c23 ?_
        refine x_aload_n hM d_Mo_goes_116 rfl 3 rfl ?_
        obtain ⟨c24, S⟩ := S
        obtain ⟨c25, S⟩ := S
        refine x_getr hG hM ck_Mo 1 (Nat.le_of_ble_eq_true rfl) rfl rfl w_898 rfl d_Mo_goes_117 c24 c25 ?_
        refine x_iload_n hM d_Mo_goes_120 rfl 2 rfl ?_
        obtain ⟨c26, S⟩ := S
        obtain ⟨c27, S⟩ := S
        refine x_iaload hG hM d_Mo_goes_121 c26 c27 ?_
        have c28 := S
        refine x_irem hM d_Mo_goes_122 c28 ?_
        refine x_goto (tgt := 142) hM d_Mo_goes_123 (by decide) ?_
        refine x_sub [3, 4, 5] rfl ?_
        exact JJ _ (Eq.symm (Eq.trans (if_neg q9) (if_pos q10)))
    · refine x_iload hM d_Mo_goes_98 0 rfl ?_
      refine x_goto (tgt := 142) hM d_Mo_goes_100 (by decide) ?_
      refine x_sub [3, 4, 5] rfl ?_
      exact JJ _ (Eq.symm (if_pos q9))
theorem d_Mo_closeThen_0 : decode b_Mo_closeThen 0 = .ok (.iconst 0, 1) := by decide +kernel
theorem d_Mo_closeThen_1 : decode b_Mo_closeThen 1 = .ok (.istore_n 1, 1) := by decide +kernel
theorem d_Mo_closeThen_2 : decode b_Mo_closeThen 2 = .ok (.aload_n 0, 1) := by decide +kernel
theorem d_Mo_closeThen_3 : decode b_Mo_closeThen 3 = .ok (.getfield 105, 3) := by decide +kernel
theorem d_Mo_closeThen_6 : decode b_Mo_closeThen 6 = .ok (.iconst 1, 1) := by decide +kernel
theorem d_Mo_closeThen_7 : decode b_Mo_closeThen 7 = .ok (.isub, 1) := by decide +kernel
theorem d_Mo_closeThen_8 : decode b_Mo_closeThen 8 = .ok (.istore_n 2, 1) := by decide +kernel
theorem d_Mo_closeThen_9 : decode b_Mo_closeThen 9 = .ok (.iload_n 2, 1) := by decide +kernel
theorem d_Mo_closeThen_10 : decode b_Mo_closeThen 10 = .ok (.ifCond .lt 25, 3) := by decide +kernel
theorem d_Mo_closeThen_13 : decode b_Mo_closeThen 13 = .ok (.iload_n 1, 1) := by decide +kernel
theorem d_Mo_closeThen_14 : decode b_Mo_closeThen 14 = .ok (.aload_n 0, 1) := by decide +kernel
theorem d_Mo_closeThen_15 : decode b_Mo_closeThen 15 = .ok (.getfield 7, 3) := by decide +kernel
theorem d_Mo_closeThen_18 : decode b_Mo_closeThen 18 = .ok (.iload_n 2, 1) := by decide +kernel
theorem d_Mo_closeThen_19 : decode b_Mo_closeThen 19 = .ok (.iaload, 1) := by decide +kernel
theorem d_Mo_closeThen_20 : decode b_Mo_closeThen 20 = .ok (.imul, 1) := by decide +kernel
theorem d_Mo_closeThen_21 : decode b_Mo_closeThen 21 = .ok (.aload_n 0, 1) := by decide +kernel
theorem d_Mo_closeThen_22 : decode b_Mo_closeThen 22 = .ok (.getfield 31, 3) := by decide +kernel
theorem d_Mo_closeThen_25 : decode b_Mo_closeThen 25 = .ok (.iload_n 2, 1) := by decide +kernel
theorem d_Mo_closeThen_26 : decode b_Mo_closeThen 26 = .ok (.iaload, 1) := by decide +kernel
theorem d_Mo_closeThen_27 : decode b_Mo_closeThen 27 = .ok (.iadd, 1) := by decide +kernel
theorem d_Mo_closeThen_28 : decode b_Mo_closeThen 28 = .ok (.istore_n 1, 1) := by decide +kernel
theorem d_Mo_closeThen_29 : decode b_Mo_closeThen 29 = .ok (.iinc 2 (-1), 3) := by decide +kernel
theorem d_Mo_closeThen_32 : decode b_Mo_closeThen 32 = .ok (.goto (-23), 3) := by decide +kernel
theorem d_Mo_closeThen_35 : decode b_Mo_closeThen 35 = .ok (.iload_n 1, 1) := by decide +kernel
theorem d_Mo_closeThen_36 : decode b_Mo_closeThen 36 = .ok (.ireturn, 1) := by decide +kernel
set_option maxRecDepth 100000 in
set_option maxHeartbeats 4000000 in
theorem S_Mo_closeThen_0 {G : Gc} {M : Mc} {Q : State → Prop} {K : Option Value → Hp → Prop} (hG : gok G) (hM : mok G M r_Mo_closeThen Q K) (v0 : Nat) (h : Hp) (F : kT h v0 = 12 ∧ X G M Q 9 [(0, .ref v0), (1, .int 0), (2, .int ((kI h v0 0) - 1))] [] h) : X G M Q 0 [(0, .ref v0)] [] h := by
  refine x_iconst (v := 0) hM d_Mo_closeThen_0 (by decide) ?_
  refine x_istore_n (lv2 := [(1, .int 0), (0, .ref v0)]) hM d_Mo_closeThen_1 rfl (Nat.le_of_ble_eq_true rfl) rfl ?_
  refine x_aload_n hM d_Mo_closeThen_2 rfl 1 rfl ?_
  obtain ⟨c1, F⟩ := F
  refine x_geti hG hM ck_Mo 0 (Nat.le_of_ble_eq_true rfl) rfl rfl w_897 rfl d_Mo_closeThen_3 c1 ?_
  refine x_iconst (v := 1) hM d_Mo_closeThen_6 (by decide) ?_
  refine x_isub hM d_Mo_closeThen_7 ?_
  refine x_istore_n (lv2 := [(2, .int ((kI h v0 0) - 1)), (1, .int 0), (0, .ref v0)]) hM d_Mo_closeThen_8 rfl (Nat.le_of_ble_eq_true rfl) rfl ?_
  refine x_sub [2, 1, 0] rfl ?_
  exact F
set_option maxRecDepth 100000 in
set_option maxHeartbeats 4000000 in
theorem S_Mo_closeThen_9 {G : Gc} {M : Mc} {Q : State → Prop} {K : Option Value → Hp → Prop} (hG : gok G) (hM : mok G M r_Mo_closeThen Q K) (v0 : Nat) (v1 : Int32) (v2 : Int32) (h : Hp) (F : (v2 < 0 → K (some (.int v1)) h) ∧ (¬ v2 < 0 → (kT h v0 = 12 ∧ kR h v0 1 = some (rf h v0 1) ∧ (kT h (rf h v0 1) = 50 ∧ vp_in v2 (kN h (rf h v0 1)) ∧ (kT h v0 = 12 ∧ kR h v0 11 = some (rf h v0 11) ∧ (kT h (rf h v0 11) = 50 ∧ vp_in v2 (kN h (rf h v0 11)) ∧ X G M Q 9 [(0, .ref v0), (1, .int ((v1 * (kI h (rf h v0 1) (Int32.toNatClampNeg v2))) + (kI h (rf h v0 11) (Int32.toNatClampNeg v2)))), (2, .int (v2 + (-1)))] [] h)))))) : X G M Q 9 [(0, .ref v0), (1, .int v1), (2, .int v2)] [] h := by
  refine x_iload_n hM d_Mo_closeThen_9 rfl 2 rfl ?_
  refine x_if_lt (tgt := 35) hM d_Mo_closeThen_10 (by decide) (fun q9 => ?_) (fun q9 => ?_)
  · replace F := F.1 q9
    refine x_iload_n hM d_Mo_closeThen_35 rfl 1 rfl ?_
    exact x_ireturn hM d_Mo_closeThen_36 rfl F
  · replace F := F.2 q9
    refine x_iload_n hM d_Mo_closeThen_13 rfl 1 rfl ?_
    refine x_aload_n hM d_Mo_closeThen_14 rfl 0 rfl ?_
    obtain ⟨c7, F⟩ := F
    obtain ⟨c8, F⟩ := F
    refine x_getr hG hM ck_Mo 1 (Nat.le_of_ble_eq_true rfl) rfl rfl w_898 rfl d_Mo_closeThen_15 c7 c8 ?_
    refine x_iload_n hM d_Mo_closeThen_18 rfl 2 rfl ?_
    obtain ⟨c5, F⟩ := F
    obtain ⟨c6, F⟩ := F
    refine x_iaload hG hM d_Mo_closeThen_19 c5 c6 ?_
    refine x_imul hM d_Mo_closeThen_20 ?_
    refine x_aload_n hM d_Mo_closeThen_21 rfl 0 rfl ?_
    obtain ⟨c3, F⟩ := F
    obtain ⟨c4, F⟩ := F
    refine x_getr hG hM ck_Mo 11 (Nat.le_of_ble_eq_true rfl) rfl rfl w_908 rfl d_Mo_closeThen_22 c3 c4 ?_
    refine x_iload_n hM d_Mo_closeThen_25 rfl 2 rfl ?_
    obtain ⟨c1, F⟩ := F
    obtain ⟨c2, F⟩ := F
    refine x_iaload hG hM d_Mo_closeThen_26 c1 c2 ?_
    refine x_iadd hM d_Mo_closeThen_27 ?_
    refine x_istore_n (lv2 := [(1, .int ((v1 * (kI h (rf h v0 1) (Int32.toNatClampNeg v2))) + (kI h (rf h v0 11) (Int32.toNatClampNeg v2)))), (0, .ref v0), (2, .int v2)]) hM d_Mo_closeThen_28 rfl (Nat.le_of_ble_eq_true rfl) rfl ?_
    refine x_iinc (v := (v2 + (-1))) (lv2 := [(2, .int (v2 + (-1))), (1, .int ((v1 * (kI h (rf h v0 1) (Int32.toNatClampNeg v2))) + (kI h (rf h v0 11) (Int32.toNatClampNeg v2)))), (0, .ref v0)]) hM d_Mo_closeThen_29 (j := 2) rfl rfl (Nat.le_of_ble_eq_true rfl) rfl ?_
    refine x_goto (tgt := 9) hM d_Mo_closeThen_32 (by decide) ?_
    refine x_sub [2, 1, 0] rfl ?_
    exact F
