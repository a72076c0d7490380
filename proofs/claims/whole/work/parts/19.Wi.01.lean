theorem d_Wi_mayCome_0 : decode b_Wi_mayCome 0 = .ok (.iload_n 3, 1) := by decide +kernel
theorem d_Wi_mayCome_1 : decode b_Wi_mayCome 1 = .ok (.iconst 1, 1) := by decide +kernel
theorem d_Wi_mayCome_2 : decode b_Wi_mayCome 2 = .ok (.if_icmp .ne 5, 3) := by decide +kernel
theorem d_Wi_mayCome_5 : decode b_Wi_mayCome 5 = .ok (.iconst 1, 1) := by decide +kernel
theorem d_Wi_mayCome_6 : decode b_Wi_mayCome 6 = .ok (.ireturn, 1) := by decide +kernel
theorem d_Wi_mayCome_7 : decode b_Wi_mayCome 7 = .ok (.aload_n 1, 1) := by decide +kernel
theorem d_Wi_mayCome_8 : decode b_Wi_mayCome 8 = .ok (.getfield 88, 3) := by decide +kernel
theorem d_Wi_mayCome_11 : decode b_Wi_mayCome 11 = .ok (.iload_n 2, 1) := by decide +kernel
theorem d_Wi_mayCome_12 : decode b_Wi_mayCome 12 = .ok (.invokestatic 92, 3) := by decide +kernel
theorem d_Wi_mayCome_15 : decode b_Wi_mayCome 15 = .ok (.aaload, 1) := by decide +kernel
theorem d_Wi_mayCome_16 : decode b_Wi_mayCome 16 = .ok (.astore 5, 2) := by decide +kernel
theorem d_Wi_mayCome_18 : decode b_Wi_mayCome 18 = .ok (.iload_n 2, 1) := by decide +kernel
theorem d_Wi_mayCome_19 : decode b_Wi_mayCome 19 = .ok (.invokestatic 77, 3) := by decide +kernel
theorem d_Wi_mayCome_22 : decode b_Wi_mayCome 22 = .ok (.istore 6, 2) := by decide +kernel
theorem d_Wi_mayCome_24 : decode b_Wi_mayCome 24 = .ok (.iconst 0, 1) := by decide +kernel
theorem d_Wi_mayCome_25 : decode b_Wi_mayCome 25 = .ok (.istore 7, 2) := by decide +kernel
theorem d_Wi_mayCome_27 : decode b_Wi_mayCome 27 = .ok (.iload 7, 2) := by decide +kernel
theorem d_Wi_mayCome_29 : decode b_Wi_mayCome 29 = .ok (.aload 5, 2) := by decide +kernel
theorem d_Wi_mayCome_31 : decode b_Wi_mayCome 31 = .ok (.getfield 95, 3) := by decide +kernel
theorem d_Wi_mayCome_34 : decode b_Wi_mayCome 34 = .ok (.if_icmp .ge 68, 3) := by decide +kernel
theorem d_Wi_mayCome_37 : decode b_Wi_mayCome 37 = .ok (.aload 5, 2) := by decide +kernel
theorem d_Wi_mayCome_39 : decode b_Wi_mayCome 39 = .ok (.getfield 100, 3) := by decide +kernel
theorem d_Wi_mayCome_42 : decode b_Wi_mayCome 42 = .ok (.iload 7, 2) := by decide +kernel
theorem d_Wi_mayCome_44 : decode b_Wi_mayCome 44 = .ok (.aaload, 1) := by decide +kernel
theorem d_Wi_mayCome_45 : decode b_Wi_mayCome 45 = .ok (.getfield 104, 3) := by decide +kernel
theorem d_Wi_mayCome_48 : decode b_Wi_mayCome 48 = .ok (.iload 6, 2) := by decide +kernel
theorem d_Wi_mayCome_50 : decode b_Wi_mayCome 50 = .ok (.iaload, 1) := by decide +kernel
theorem d_Wi_mayCome_51 : decode b_Wi_mayCome 51 = .ok (.istore 8, 2) := by decide +kernel
theorem d_Wi_mayCome_53 : decode b_Wi_mayCome 53 = .ok (.iload_n 3, 1) := by decide +kernel
theorem d_Wi_mayCome_54 : decode b_Wi_mayCome 54 = .ok (.iconst 2, 1) := by decide +kernel
theorem d_Wi_mayCome_55 : decode b_Wi_mayCome 55 = .ok (.if_icmp .ne 29, 3) := by decide +kernel
theorem d_Wi_mayCome_58 : decode b_Wi_mayCome 58 = .ok (.aload_n 0, 1) := by decide +kernel
theorem d_Wi_mayCome_59 : decode b_Wi_mayCome 59 = .ok (.getfield 27, 3) := by decide +kernel
theorem d_Wi_mayCome_62 : decode b_Wi_mayCome 62 = .ok (.iload 8, 2) := by decide +kernel
theorem d_Wi_mayCome_64 : decode b_Wi_mayCome 64 = .ok (.iaload, 1) := by decide +kernel
theorem d_Wi_mayCome_65 : decode b_Wi_mayCome 65 = .ok (.iconst (-1), 1) := by decide +kernel
theorem d_Wi_mayCome_66 : decode b_Wi_mayCome 66 = .ok (.if_icmp .eq 28, 3) := by decide +kernel
theorem d_Wi_mayCome_69 : decode b_Wi_mayCome 69 = .ok (.aload_n 0, 1) := by decide +kernel
theorem d_Wi_mayCome_70 : decode b_Wi_mayCome 70 = .ok (.getfield 27, 3) := by decide +kernel
theorem d_Wi_mayCome_73 : decode b_Wi_mayCome 73 = .ok (.iload 8, 2) := by decide +kernel
theorem d_Wi_mayCome_75 : decode b_Wi_mayCome 75 = .ok (.iaload, 1) := by decide +kernel
theorem d_Wi_mayCome_76 : decode b_Wi_mayCome 76 = .ok (.iload 4, 2) := by decide +kernel
theorem d_Wi_mayCome_78 : decode b_Wi_mayCome 78 = .ok (.if_icmp .le 18, 3) := by decide +kernel
theorem d_Wi_mayCome_81 : decode b_Wi_mayCome 81 = .ok (.goto 13, 3) := by decide +kernel
theorem d_Wi_mayCome_84 : decode b_Wi_mayCome 84 = .ok (.aload_n 0, 1) := by decide +kernel
theorem d_Wi_mayCome_85 : decode b_Wi_mayCome 85 = .ok (.getfield 37, 3) := by decide +kernel
theorem d_Wi_mayCome_88 : decode b_Wi_mayCome 88 = .ok (.iload 8, 2) := by decide +kernel
theorem d_Wi_mayCome_90 : decode b_Wi_mayCome 90 = .ok (.baload, 1) := by decide +kernel
theorem d_Wi_mayCome_91 : decode b_Wi_mayCome 91 = .ok (.ifCond .ne 5, 3) := by decide +kernel
theorem d_Wi_mayCome_94 : decode b_Wi_mayCome 94 = .ok (.iconst 0, 1) := by decide +kernel
theorem d_Wi_mayCome_95 : decode b_Wi_mayCome 95 = .ok (.ireturn, 1) := by decide +kernel
theorem d_Wi_mayCome_96 : decode b_Wi_mayCome 96 = .ok (.iinc 7 1, 3) := by decide +kernel
theorem d_Wi_mayCome_99 : decode b_Wi_mayCome 99 = .ok (.goto (-72), 3) := by decide +kernel
theorem d_Wi_mayCome_102 : decode b_Wi_mayCome 102 = .ok (.iconst 1, 1) := by decide +kernel
theorem d_Wi_mayCome_103 : decode b_Wi_mayCome 103 = .ok (.ireturn, 1) := by decide +kernel
set_option maxRecDepth 100000 in
set_option maxHeartbeats 4000000 in
theorem S_Wi_mayCome_0 {G : Gc} {M : Mc} {Q : State → Prop} {K : Option Value → Hp → Prop} (hG : gok G) (hM : mok G M r_Wi_mayCome Q K) (v0 : Nat) (v1 : Nat) (v2 : Int32) (v3 : Int32) (v4 : Int32) (h : Hp) (F : (v3 = 1 → K (some (.int 1)) h) ∧ (¬ v3 = 1 → (kT h v1 = 2 ∧ kR h v1 5 = some (rf h v1 5) ∧ (sem G r_WP_actOf [.int v2] h (fun u2 h1 => ∃ x3 : Int32, u2 = some (.int x3) ∧ (kT h1 (rf h v1 5) = 53 ∧ vp_in x3 (kN h1 (rf h v1 5)) ∧ kR h1 (rf h v1 5) (Int32.toNatClampNeg x3) = some (rf h1 (rf h v1 5) (Int32.toNatClampNeg x3)) ∧ (sem G r_WP_stateOf [.int v2] h1 (fun u5 h4 => ∃ x6 : Int32, u5 = some (.int x6) ∧ X G M Q 27 [(0, .ref v0), (3, .int v3), (4, .int v4), (5, .ref (rf h1 (rf h v1 5) (Int32.toNatClampNeg x3))), (6, .int x6), (7, .int 0)] [] h4)))))))) : X G M Q 0 [(0, .ref v0), (1, .ref v1), (2, .int v2), (3, .int v3), (4, .int v4)] [] h := by
  refine x_iload_n hM d_Wi_mayCome_0 rfl 3 rfl ?_
  refine x_iconst (v := 1) hM d_Wi_mayCome_1 (by decide) ?_
  refine x_icmp_ne (tgt := 7) hM d_Wi_mayCome_2 (by decide) (fun q12 => ?_) (fun q12 => ?_)
  · replace F := F.2 q12
    refine x_aload_n hM d_Wi_mayCome_7 rfl 1 rfl ?_
    obtain ⟨c10, F⟩ := F
    obtain ⟨c11, F⟩ := F
    refine x_getr hG hM ck_Wo 5 (Nat.le_of_ble_eq_true rfl) rfl rfl w_148 rfl d_Wi_mayCome_8 c10 c11 ?_
    refine x_iload_n hM d_Wi_mayCome_11 rfl 2 rfl ?_
    refine x_callSN hG hM (r' := r_WP_actOf) [.int v2] rfl yk_WP_actOf ⟨Nat.le_of_ble_eq_true rfl, Nat.le_of_ble_eq_true rfl⟩ w_671 w_672 rfl rfl (Nat.le_of_ble_eq_true rfl) d_Wi_mayCome_12 (sem_mono F ?_)
    intro u2 h1 F
    obtain ⟨x3, rfl, F⟩ := F
    obtain ⟨c7, F⟩ := F
    obtain ⟨c8, F⟩ := F
    obtain ⟨c9, F⟩ := F
    refine x_aaload hG hM 53 rfl (Nat.le_of_ble_eq_true rfl) d_Wi_mayCome_15 c7 c8 c9 ?_
    refine x_astore (lv2 := [(5, .ref (rf h1 (rf h v1 5) (Int32.toNatClampNeg x3))), (0, .ref v0), (1, .ref v1), (2, .int v2), (3, .int v3), (4, .int v4)]) hM d_Wi_mayCome_16 (Nat.le_of_ble_eq_true rfl) rfl ?_
    refine x_iload_n hM d_Wi_mayCome_18 rfl 3 rfl ?_
    refine x_callSN hG hM (r' := r_WP_stateOf) [.int v2] rfl yk_WP_stateOf ⟨Nat.le_of_ble_eq_true rfl, Nat.le_of_ble_eq_true rfl⟩ w_664 w_665 rfl rfl (Nat.le_of_ble_eq_true rfl) d_Wi_mayCome_19 (sem_mono F ?_)
    intro u5 h4 F
    obtain ⟨x6, rfl, F⟩ := F
    refine x_istore (lv2 := [(6, .int x6), (5, .ref (rf h1 (rf h v1 5) (Int32.toNatClampNeg x3))), (0, .ref v0), (1, .ref v1), (2, .int v2), (3, .int v3), (4, .int v4)]) hM d_Wi_mayCome_22 (Nat.le_of_ble_eq_true rfl) rfl ?_
    refine x_iconst (v := 0) hM d_Wi_mayCome_24 (by decide) ?_
    refine x_istore (lv2 := [(7, .int 0), (6, .int x6), (5, .ref (rf h1 (rf h v1 5) (Int32.toNatClampNeg x3))), (0, .ref v0), (1, .ref v1), (2, .int v2), (3, .int v3), (4, .int v4)]) hM d_Wi_mayCome_25 (Nat.le_of_ble_eq_true rfl) rfl ?_
    refine x_sub [3, 6, 7, 2, 1, 0] rfl ?_
    exact F
  · replace F := F.1 q12
    refine x_iconst (v := 1) hM d_Wi_mayCome_5 (by decide) ?_
    exact x_zreturn hM d_Wi_mayCome_6 rfl (Or.inr rfl) F
set_option maxRecDepth 100000 in
set_option maxHeartbeats 4000000 in
theorem S_Wi_mayCome_27 {G : Gc} {M : Mc} {Q : State → Prop} {K : Option Value → Hp → Prop} (hG : gok G) (hM : mok G M r_Wi_mayCome Q K) (v0 : Nat) (v3 : Int32) (v4 : Int32) (v5 : Nat) (v6 : Int32) (v7 : Int32) (h : Hp) (F : kT h v5 = 3 ∧ (((kI h v5 2) ≤ v7 → K (some (.int 1)) h) ∧ (¬ (kI h v5 2) ≤ v7 → (kT h v5 = 3 ∧ kR h v5 1 = some (rf h v5 1) ∧ (kT h (rf h v5 1) = 54 ∧ vp_in v7 (kN h (rf h v5 1)) ∧ kR h (rf h v5 1) (Int32.toNatClampNeg v7) = some (rf h (rf h v5 1) (Int32.toNatClampNeg v7)) ∧ (kT h (rf h (rf h v5 1) (Int32.toNatClampNeg v7)) = 4 ∧ kR h (rf h (rf h v5 1) (Int32.toNatClampNeg v7)) 1 = some (rf h (rf h (rf h v5 1) (Int32.toNatClampNeg v7)) 1) ∧ (kT h (rf h (rf h (rf h v5 1) (Int32.toNatClampNeg v7)) 1) = 50 ∧ vp_in v6 (kN h (rf h (rf h (rf h v5 1) (Int32.toNatClampNeg v7)) 1)) ∧ ((v3 = 2 → (kT h v0 = 9 ∧ kR h v0 4 = some (rf h v0 4) ∧ (kT h (rf h v0 4) = 50 ∧ vp_in (kI h (rf h (rf h (rf h v5 1) (Int32.toNatClampNeg v7)) 1) (Int32.toNatClampNeg v6)) (kN h (rf h v0 4)) ∧ (((kI h (rf h v0 4) (Int32.toNatClampNeg (kI h (rf h (rf h (rf h v5 1) (Int32.toNatClampNeg v7)) 1) (Int32.toNatClampNeg v6)))) = (-1) → K (some (.int 0)) h) ∧ (¬ (kI h (rf h v0 4) (Int32.toNatClampNeg (kI h (rf h (rf h (rf h v5 1) (Int32.toNatClampNeg v7)) 1) (Int32.toNatClampNeg v6)))) = (-1) → (kT h v0 = 9 ∧ kR h v0 4 = some (rf h v0 4) ∧ (kT h (rf h v0 4) = 50 ∧ vp_in (kI h (rf h (rf h (rf h v5 1) (Int32.toNatClampNeg v7)) 1) (Int32.toNatClampNeg v6)) (kN h (rf h v0 4)) ∧ (((kI h (rf h v0 4) (Int32.toNatClampNeg (kI h (rf h (rf h (rf h v5 1) (Int32.toNatClampNeg v7)) 1) (Int32.toNatClampNeg v6)))) ≤ v4 → X G M Q 27 [(0, .ref v0), (3, .int v3), (4, .int v4), (5, .ref v5), (6, .int v6), (7, .int (v7 + 1))] [] h) ∧ (¬ (kI h (rf h v0 4) (Int32.toNatClampNeg (kI h (rf h (rf h (rf h v5 1) (Int32.toNatClampNeg v7)) 1) (Int32.toNatClampNeg v6)))) ≤ v4 → K (some (.int 0)) h))))))))) ∧ (¬ v3 = 2 → (kT h v0 = 9 ∧ kR h v0 7 = some (rf h v0 7) ∧ (kT h (rf h v0 7) = 51 ∧ vp_in (kI h (rf h (rf h (rf h v5 1) (Int32.toNatClampNeg v7)) 1) (Int32.toNatClampNeg v6)) (kN h (rf h v0 7)) ∧ (((kI h (rf h v0 7) (Int32.toNatClampNeg (kI h (rf h (rf h (rf h v5 1) (Int32.toNatClampNeg v7)) 1) (Int32.toNatClampNeg v6)))) = 0 → K (some (.int 0)) h) ∧ (¬ (kI h (rf h v0 7) (Int32.toNatClampNeg (kI h (rf h (rf h (rf h v5 1) (Int32.toNatClampNeg v7)) 1) (Int32.toNatClampNeg v6)))) = 0 → X G M Q 27 [(0, .ref v0), (3, .int v3), (4, .int v4), (5, .ref v5), (6, .int v6), (7, .int (v7 + 1))] [] h))))))))))))) : X G M Q 27 [(0, .ref v0), (3, .int v3), (4, .int v4), (5, .ref v5), (6, .int v6), (7, .int v7)] [] h := by
  refine x_iload hM d_Wi_mayCome_27 5 rfl ?_
  refine x_aload hM d_Wi_mayCome_29 3 rfl ?_
  obtain ⟨c27, F⟩ := F
  refine x_geti hG hM ck_Ac 2 (Nat.le_of_ble_eq_true rfl) rfl rfl w_108 rfl d_Wi_mayCome_31 c27 ?_
  refine x_icmp_ge (tgt := 102) hM d_Wi_mayCome_34 (by decide) (fun q26 => ?_) (fun q26 => ?_)
  · replace F := F.1 q26
    refine x_iconst (v := 1) hM d_Wi_mayCome_102 (by decide) ?_
    exact x_zreturn hM d_Wi_mayCome_103 rfl (Or.inr rfl) F
  · replace F := F.2 q26
    refine x_aload hM d_Wi_mayCome_37 3 rfl ?_
    obtain ⟨c24, F⟩ := F
    obtain ⟨c25, F⟩ := F
    refine x_getr hG hM ck_Ac 1 (Nat.le_of_ble_eq_true rfl) rfl rfl w_100 rfl d_Wi_mayCome_39 c24 c25 ?_
    refine x_iload hM d_Wi_mayCome_42 5 rfl ?_
    obtain ⟨c21, F⟩ := F
    obtain ⟨c22, F⟩ := F
    obtain ⟨c23, F⟩ := F
    refine x_aaload hG hM 54 rfl (Nat.le_of_ble_eq_true rfl) d_Wi_mayCome_44 c21 c22 c23 ?_
    obtain ⟨c19, F⟩ := F
    obtain ⟨c20, F⟩ := F
    refine x_getr hG hM ck_Ou 1 (Nat.le_of_ble_eq_true rfl) rfl rfl w_81 rfl d_Wi_mayCome_45 c19 c20 ?_
    refine x_iload hM d_Wi_mayCome_48 4 rfl ?_
    obtain ⟨c17, F⟩ := F
    obtain ⟨c18, F⟩ := F
    refine x_iaload hG hM d_Wi_mayCome_50 c17 c18 ?_
    refine x_istore (lv2 := [(8, .int (kI h (rf h (rf h (rf h v5 1) (Int32.toNatClampNeg v7)) 1) (Int32.toNatClampNeg v6))), (0, .ref v0), (3, .int v3), (4, .int v4), (5, .ref v5), (6, .int v6), (7, .int v7)]) hM d_Wi_mayCome_51 (Nat.le_of_ble_eq_true rfl) rfl ?_
    refine x_iload_n hM d_Wi_mayCome_53 rfl 2 rfl ?_
    refine x_iconst (v := 2) hM d_Wi_mayCome_54 (by decide) ?_
    refine x_icmp_ne (tgt := 84) hM d_Wi_mayCome_55 (by decide) (fun q16 => ?_) (fun q16 => ?_)
    · replace F := F.2 q16
      refine x_aload_n hM d_Wi_mayCome_84 rfl 1 rfl ?_
      obtain ⟨c4, F⟩ := F
      obtain ⟨c5, F⟩ := F
      refine x_getr hG hM ck_Wi 7 (Nat.le_of_ble_eq_true rfl) rfl rfl w_294 rfl d_Wi_mayCome_85 c4 c5 ?_
      refine x_iload hM d_Wi_mayCome_88 0 rfl ?_
      obtain ⟨c2, F⟩ := F
      obtain ⟨c3, F⟩ := F
      refine x_zaload hG hM d_Wi_mayCome_90 c2 c3 ?_
      refine x_if_ne (tgt := 96) hM d_Wi_mayCome_91 (by decide) (fun q1 => ?_) (fun q1 => ?_)
      · replace F := F.2 q1
        refine x_iinc (v := (v7 + 1)) (lv2 := [(7, .int (v7 + 1)), (8, .int (kI h (rf h (rf h (rf h v5 1) (Int32.toNatClampNeg v7)) 1) (Int32.toNatClampNeg v6))), (0, .ref v0), (3, .int v3), (4, .int v4), (5, .ref v5), (6, .int v6)]) hM d_Wi_mayCome_96 (j := 6) rfl rfl (Nat.le_of_ble_eq_true rfl) rfl ?_
        refine x_goto (tgt := 27) hM d_Wi_mayCome_99 (by decide) ?_
        refine x_sub [2, 3, 4, 5, 6, 0] rfl ?_
        exact F
      · replace F := F.1 q1
        refine x_iconst (v := 0) hM d_Wi_mayCome_94 (by decide) ?_
        exact x_zreturn hM d_Wi_mayCome_95 rfl (Or.inl rfl) F
    · replace F := F.1 q16
      refine x_aload_n hM d_Wi_mayCome_58 rfl 1 rfl ?_
      obtain ⟨c14, F⟩ := F
      obtain ⟨c15, F⟩ := F
      refine x_getr hG hM ck_Wi 4 (Nat.le_of_ble_eq_true rfl) rfl rfl w_290 rfl d_Wi_mayCome_59 c14 c15 ?_
      refine x_iload hM d_Wi_mayCome_62 0 rfl ?_
      obtain ⟨c12, F⟩ := F
      obtain ⟨c13, F⟩ := F
      refine x_iaload hG hM d_Wi_mayCome_64 c12 c13 ?_
      refine x_iconst (v := (-1)) hM d_Wi_mayCome_65 (by decide) ?_
      refine x_icmp_eq (tgt := 94) hM d_Wi_mayCome_66 (by decide) (fun q11 => ?_) (fun q11 => ?_)
      · replace F := F.1 q11
        refine x_iconst (v := 0) hM d_Wi_mayCome_94 (by decide) ?_
        exact x_zreturn hM d_Wi_mayCome_95 rfl (Or.inl rfl) F
      · replace F := F.2 q11
        refine x_aload_n hM d_Wi_mayCome_69 rfl 1 rfl ?_
        obtain ⟨c9, F⟩ := F
        obtain ⟨c10, F⟩ := F
        refine x_getr hG hM ck_Wi 4 (Nat.le_of_ble_eq_true rfl) rfl rfl w_290 rfl d_Wi_mayCome_70 c9 c10 ?_
        refine x_iload hM d_Wi_mayCome_73 0 rfl ?_
        obtain ⟨c7, F⟩ := F
        obtain ⟨c8, F⟩ := F
        refine x_iaload hG hM d_Wi_mayCome_75 c7 c8 ?_
        refine x_iload hM d_Wi_mayCome_76 3 rfl ?_
        refine x_icmp_le (tgt := 96) hM d_Wi_mayCome_78 (by decide) (fun q6 => ?_) (fun q6 => ?_)
        · replace F := F.1 q6
          refine x_iinc (v := (v7 + 1)) (lv2 := [(7, .int (v7 + 1)), (8, .int (kI h (rf h (rf h (rf h v5 1) (Int32.toNatClampNeg v7)) 1) (Int32.toNatClampNeg v6))), (0, .ref v0), (3, .int v3), (4, .int v4), (5, .ref v5), (6, .int v6)]) hM d_Wi_mayCome_96 (j := 6) rfl rfl (Nat.le_of_ble_eq_true rfl) rfl ?_
          refine x_goto (tgt := 27) hM d_Wi_mayCome_99 (by decide) ?_
          refine x_sub [2, 3, 4, 5, 6, 0] rfl ?_
          exact F
        · replace F := F.2 q6
          refine x_goto (tgt := 94) hM d_Wi_mayCome_81 (by decide) ?_
          refine x_iconst (v := 0) hM d_Wi_mayCome_94 (by decide) ?_
          exact x_zreturn hM d_Wi_mayCome_95 rfl (Or.inl rfl) F
theorem d_Wi_findLevels_0 : decode b_Wi_findLevels 0 = .ok (.aload_n 0, 1) := by decide +kernel
theorem d_Wi_findLevels_1 : decode b_Wi_findLevels 1 = .ok (.aload_n 0, 1) := by decide +kernel
theorem d_Wi_findLevels_2 : decode b_Wi_findLevels 2 = .ok (.getfield 37, 3) := by decide +kernel
theorem d_Wi_findLevels_5 : decode b_Wi_findLevels 5 = .ok (.aload_n 1, 1) := by decide +kernel
theorem d_Wi_findLevels_6 : decode b_Wi_findLevels 6 = .ok (.getfield 43, 3) := by decide +kernel
theorem d_Wi_findLevels_9 : decode b_Wi_findLevels 9 = .ok (.invokestatic 48, 3) := by decide +kernel
theorem d_Wi_findLevels_12 : decode b_Wi_findLevels 12 = .ok (.putfield 37, 3) := by decide +kernel
theorem d_Wi_findLevels_15 : decode b_Wi_findLevels 15 = .ok (.iconst 0, 1) := by decide +kernel
theorem d_Wi_findLevels_16 : decode b_Wi_findLevels 16 = .ok (.istore_n 2, 1) := by decide +kernel
theorem d_Wi_findLevels_17 : decode b_Wi_findLevels 17 = .ok (.iload_n 2, 1) := by decide +kernel
theorem d_Wi_findLevels_18 : decode b_Wi_findLevels 18 = .ok (.aload_n 1, 1) := by decide +kernel
theorem d_Wi_findLevels_19 : decode b_Wi_findLevels 19 = .ok (.getfield 43, 3) := by decide +kernel
theorem d_Wi_findLevels_22 : decode b_Wi_findLevels 22 = .ok (.if_icmp .ge 16, 3) := by decide +kernel
theorem d_Wi_findLevels_25 : decode b_Wi_findLevels 25 = .ok (.aload_n 0, 1) := by decide +kernel
theorem d_Wi_findLevels_26 : decode b_Wi_findLevels 26 = .ok (.getfield 37, 3) := by decide +kernel
theorem d_Wi_findLevels_29 : decode b_Wi_findLevels 29 = .ok (.iload_n 2, 1) := by decide +kernel
theorem d_Wi_findLevels_30 : decode b_Wi_findLevels 30 = .ok (.iconst 1, 1) := by decide +kernel
theorem d_Wi_findLevels_31 : decode b_Wi_findLevels 31 = .ok (.bastore, 1) := by decide +kernel
theorem d_Wi_findLevels_32 : decode b_Wi_findLevels 32 = .ok (.iinc 2 1, 3) := by decide +kernel
theorem d_Wi_findLevels_35 : decode b_Wi_findLevels 35 = .ok (.goto (-18), 3) := by decide +kernel
theorem d_Wi_findLevels_38 : decode b_Wi_findLevels 38 = .ok (.aload_n 1, 1) := by decide +kernel
theorem d_Wi_findLevels_39 : decode b_Wi_findLevels 39 = .ok (.getfield 43, 3) := by decide +kernel
theorem d_Wi_findLevels_42 : decode b_Wi_findLevels 42 = .ok (.istore_n 2, 1) := by decide +kernel
theorem d_Wi_findLevels_43 : decode b_Wi_findLevels 43 = .ok (.iconst 0, 1) := by decide +kernel
theorem d_Wi_findLevels_44 : decode b_Wi_findLevels 44 = .ok (.istore_n 3, 1) := by decide +kernel
theorem d_Wi_findLevels_45 : decode b_Wi_findLevels 45 = .ok (.iload_n 3, 1) := by decide +kernel
theorem d_Wi_findLevels_46 : decode b_Wi_findLevels 46 = .ok (.aload_n 1, 1) := by decide +kernel
theorem d_Wi_findLevels_47 : decode b_Wi_findLevels 47 = .ok (.getfield 43, 3) := by decide +kernel
theorem d_Wi_findLevels_50 : decode b_Wi_findLevels 50 = .ok (.if_icmp .gt 72, 3) := by decide +kernel
theorem d_Wi_findLevels_53 : decode b_Wi_findLevels 53 = .ok (.aload_n 0, 1) := by decide +kernel
theorem d_Wi_findLevels_54 : decode b_Wi_findLevels 54 = .ok (.aload_n 1, 1) := by decide +kernel
theorem d_Wi_findLevels_55 : decode b_Wi_findLevels 55 = .ok (.iconst 3, 1) := by decide +kernel
theorem d_Wi_findLevels_56 : decode b_Wi_findLevels 56 = .ok (.aload_n 0, 1) := by decide +kernel
theorem d_Wi_findLevels_57 : decode b_Wi_findLevels 57 = .ok (.getfield 30, 3) := by decide +kernel
theorem d_Wi_findLevels_60 : decode b_Wi_findLevels 60 = .ok (.invokevirtual 65, 3) := by decide +kernel
theorem d_Wi_findLevels_63 : decode b_Wi_findLevels 63 = .ok (.istore 4, 2) := by decide +kernel
theorem d_Wi_findLevels_65 : decode b_Wi_findLevels 65 = .ok (.iload 4, 2) := by decide +kernel
theorem d_Wi_findLevels_67 : decode b_Wi_findLevels 67 = .ok (.iload_n 2, 1) := by decide +kernel
theorem d_Wi_findLevels_68 : decode b_Wi_findLevels 68 = .ok (.if_icmp .ne 4, 3) := by decide +kernel
theorem d_Wi_findLevels_71 : decode b_Wi_findLevels 71 = .ok (.return_, 1) := by decide +kernel
theorem d_Wi_findLevels_72 : decode b_Wi_findLevels 72 = .ok (.iload 4, 2) := by decide +kernel
theorem d_Wi_findLevels_74 : decode b_Wi_findLevels 74 = .ok (.istore_n 2, 1) := by decide +kernel
theorem d_Wi_findLevels_75 : decode b_Wi_findLevels 75 = .ok (.iconst 0, 1) := by decide +kernel
theorem d_Wi_findLevels_76 : decode b_Wi_findLevels 76 = .ok (.istore 5, 2) := by decide +kernel
theorem d_Wi_findLevels_78 : decode b_Wi_findLevels 78 = .ok (.iload 5, 2) := by decide +kernel
theorem d_Wi_findLevels_80 : decode b_Wi_findLevels 80 = .ok (.aload_n 1, 1) := by decide +kernel
theorem d_Wi_findLevels_81 : decode b_Wi_findLevels 81 = .ok (.getfield 43, 3) := by decide +kernel
theorem d_Wi_findLevels_84 : decode b_Wi_findLevels 84 = .ok (.if_icmp .ge 32, 3) := by decide +kernel
theorem d_Wi_findLevels_87 : decode b_Wi_findLevels 87 = .ok (.aload_n 0, 1) := by decide +kernel
theorem d_Wi_findLevels_88 : decode b_Wi_findLevels 88 = .ok (.getfield 37, 3) := by decide +kernel
theorem d_Wi_findLevels_91 : decode b_Wi_findLevels 91 = .ok (.iload 5, 2) := by decide +kernel
theorem d_Wi_findLevels_93 : decode b_Wi_findLevels 93 = .ok (.aload_n 0, 1) := by decide +kernel
theorem d_Wi_findLevels_94 : decode b_Wi_findLevels 94 = .ok (.getfield 30, 3) := by decide +kernel
theorem d_Wi_findLevels_97 : decode b_Wi_findLevels 97 = .ok (.iload 5, 2) := by decide +kernel
theorem d_Wi_findLevels_99 : decode b_Wi_findLevels 99 = .ok (.iaload, 1) := by decide +kernel
theorem d_Wi_findLevels_100 : decode b_Wi_findLevels 100 = .ok (.iconst (-1), 1) := by decide +kernel
theorem d_Wi_findLevels_101 : decode b_Wi_findLevels 101 = .ok (.if_icmp .eq 7, 3) := by decide +kernel
theorem d_Wi_findLevels_104 : decode b_Wi_findLevels 104 = .ok (.iconst 1, 1) := by decide +kernel
theorem d_Wi_findLevels_105 : decode b_Wi_findLevels 105 = .ok (.goto 4, 3) := by decide +kernel
theorem d_Wi_findLevels_108 : decode b_Wi_findLevels 108 = .ok (.iconst 0, 1) := by decide +kernel
theorem d_Wi_findLevels_109 : decode b_Wi_findLevels 109 = .ok (.bastore, 1) := by decide +kernel
theorem d_Wi_findLevels_110 : decode b_Wi_findLevels 110 = .ok (.iinc 5 1, 3) := by decide +kernel
theorem d_Wi_findLevels_113 : decode b_Wi_findLevels 113 = .ok (.goto (-35), 3) := by decide +kernel
theorem d_Wi_findLevels_116 : decode b_Wi_findLevels 116 = .ok (.iinc 3 1, 3) := by decide +kernel
theorem d_Wi_findLevels_119 : decode b_Wi_findLevels 119 = .ok (.goto (-74), 3) := by decide +kernel
theorem d_Wi_findLevels_122 : decode b_Wi_findLevels 122 = .ok (.return_, 1) := by decide +kernel
set_option maxRecDepth 100000 in
set_option maxHeartbeats 4000000 in
theorem S_Wi_findLevels_0 {G : Gc} {M : Mc} {Q : State → Prop} {K : Option Value → Hp → Prop} (hG : gok G) (hM : mok G M r_Wi_findLevels Q K) (v0 : Nat) (v1 : Nat) (h : Hp) (F : kT h v0 = 9 ∧ kR h v0 7 = some (rf h v0 7) ∧ (kT h v1 = 2 ∧ (sem G r_WP_marksFor [.ref (rf h v0 7), .int (kI h v1 1)] h (fun u2 h1 => ∃ x3 : Nat, u2 = some (.ref x3) ∧ (kT h1 v0 = 9 ∧ (∀ h4 : Hp, h4 = wR h1 v0 7 (some x3) → X G M Q 17 [(0, .ref v0), (1, .ref v1), (2, .int 0)] [] h4)))))) : X G M Q 0 [(0, .ref v0), (1, .ref v1)] [] h := by
  refine x_aload_n hM d_Wi_findLevels_0 rfl 0 rfl ?_
  refine x_aload_n hM d_Wi_findLevels_1 rfl 0 rfl ?_
  obtain ⟨c7, F⟩ := F
  obtain ⟨c8, F⟩ := F
  refine x_getr hG hM ck_Wi 7 (Nat.le_of_ble_eq_true rfl) rfl rfl w_294 rfl d_Wi_findLevels_2 c7 c8 ?_
  refine x_aload_n hM d_Wi_findLevels_5 rfl 1 rfl ?_
  obtain ⟨c6, F⟩ := F
  refine x_geti hG hM ck_Wo 1 (Nat.le_of_ble_eq_true rfl) rfl rfl w_128 rfl d_Wi_findLevels_6 c6 ?_
  refine x_callSN hG hM (r' := r_WP_marksFor) [.ref (rf h v0 7), .int (kI h v1 1)] rfl yk_WP_marksFor ⟨Nat.le_of_ble_eq_true rfl, Nat.le_of_ble_eq_true rfl⟩ w_646 w_647 rfl rfl (Nat.le_of_ble_eq_true rfl) d_Wi_findLevels_9 (sem_mono F ?_)
  intro u2 h1 F
  obtain ⟨x3, rfl, F⟩ := F
  obtain ⟨c5, F⟩ := F
  obtain ⟨h4, eh4⟩ : ∃ z : Hp, z = wR h1 v0 7 (some x3) := ⟨_, rfl⟩
  replace F := F h4 eh4
  refine x_putr hG hM ck_Wi 7 (Nat.le_of_ble_eq_true rfl) (Or.inr ⟨_, rfl⟩) rfl w_294 rfl d_Wi_findLevels_12 (Or.inl rfl) c5 ?_
  rw [← eh4]
  clear eh4
  refine x_iconst (v := 0) hM d_Wi_findLevels_15 (by decide) ?_
  refine x_istore_n (lv2 := [(2, .int 0), (0, .ref v0), (1, .ref v1)]) hM d_Wi_findLevels_16 rfl (Nat.le_of_ble_eq_true rfl) rfl ?_
  refine x_sub [1, 2, 0] rfl ?_
  exact F
set_option maxRecDepth 100000 in
set_option maxHeartbeats 4000000 in
theorem S_Wi_findLevels_17 {G : Gc} {M : Mc} {Q : State → Prop} {K : Option Value → Hp → Prop} (hG : gok G) (hM : mok G M r_Wi_findLevels Q K) (v0 : Nat) (v1 : Nat) (v2 : Int32) (h : Hp) (F : kT h v1 = 2 ∧ (((kI h v1 1) ≤ v2 → (kT h v1 = 2 ∧ X G M Q 45 [(0, .ref v0), (1, .ref v1), (2, .int (kI h v1 1)), (3, .int 0)] [] h)) ∧ (¬ (kI h v1 1) ≤ v2 → (kT h v0 = 9 ∧ kR h v0 7 = some (rf h v0 7) ∧ (kT h (rf h v0 7) = 51 ∧ vp_in v2 (kN h (rf h v0 7)) ∧ (∀ h2 : Hp, h2 = wI h (rf h v0 7) (Int32.toNatClampNeg v2) 1 → X G M Q 17 [(0, .ref v0), (1, .ref v1), (2, .int (v2 + 1))] [] h2)))))) : X G M Q 17 [(0, .ref v0), (1, .ref v1), (2, .int v2)] [] h := by
  refine x_iload_n hM d_Wi_findLevels_17 rfl 2 rfl ?_
  refine x_aload_n hM d_Wi_findLevels_18 rfl 1 rfl ?_
  obtain ⟨c8, F⟩ := F
  refine x_geti hG hM ck_Wo 1 (Nat.le_of_ble_eq_true rfl) rfl rfl w_128 rfl d_Wi_findLevels_19 c8 ?_
  refine x_icmp_ge (tgt := 38) hM d_Wi_findLevels_22 (by decide) (fun q7 => ?_) (fun q7 => ?_)
  · replace F := F.1 q7
    refine x_aload_n hM d_Wi_findLevels_38 rfl 1 rfl ?_
    obtain ⟨c1, F⟩ := F
    refine x_geti hG hM ck_Wo 1 (Nat.le_of_ble_eq_true rfl) rfl rfl w_128 rfl d_Wi_findLevels_39 c1 ?_
    refine x_istore_n (lv2 := [(2, .int (kI h v1 1)), (0, .ref v0), (1, .ref v1)]) hM d_Wi_findLevels_42 rfl (Nat.le_of_ble_eq_true rfl) rfl ?_
    refine x_iconst (v := 0) hM d_Wi_findLevels_43 (by decide) ?_
    refine x_istore_n (lv2 := [(3, .int 0), (2, .int (kI h v1 1)), (0, .ref v0), (1, .ref v1)]) hM d_Wi_findLevels_44 rfl (Nat.le_of_ble_eq_true rfl) rfl ?_
    refine x_sub [2, 3, 1, 0] rfl ?_
    exact F
  · replace F := F.2 q7
    refine x_aload_n hM d_Wi_findLevels_25 rfl 0 rfl ?_
    obtain ⟨c5, F⟩ := F
    obtain ⟨c6, F⟩ := F
    refine x_getr hG hM ck_Wi 7 (Nat.le_of_ble_eq_true rfl) rfl rfl w_294 rfl d_Wi_findLevels_26 c5 c6 ?_
    refine x_iload_n hM d_Wi_findLevels_29 rfl 2 rfl ?_
    refine x_iconst (v := 1) hM d_Wi_findLevels_30 (by decide) ?_
    obtain ⟨c3, F⟩ := F
    obtain ⟨c4, F⟩ := F
    obtain ⟨h2, eh2⟩ : ∃ z : Hp, z = wI h (rf h v0 7) (Int32.toNatClampNeg v2) 1 := ⟨_, rfl⟩
    replace F := F h2 eh2
    refine x_zastore hG hM d_Wi_findLevels_31 c3 c4 (Or.inr rfl) ?_
    rw [← eh2]
    clear eh2
    refine x_iinc (v := (v2 + 1)) (lv2 := [(2, .int (v2 + 1)), (0, .ref v0), (1, .ref v1)]) hM d_Wi_findLevels_32 (j := 2) rfl rfl (Nat.le_of_ble_eq_true rfl) rfl ?_
    refine x_goto (tgt := 17) hM d_Wi_findLevels_35 (by decide) ?_
    refine x_sub [1, 2, 0] rfl ?_
    exact F
set_option maxRecDepth 100000 in
set_option maxHeartbeats 4000000 in
theorem S_Wi_findLevels_45 {G : Gc} {M : Mc} {Q : State → Prop} {K : Option Value → Hp → Prop} (hG : gok G) (hM : mok G M r_Wi_findLevels Q K) (v0 : Nat) (v1 : Nat) (v2 : Int32) (v3 : Int32) (h : Hp) (F : kT h v1 = 2 ∧ (((kI h v1 1) < v3 → K none h) ∧ (¬ (kI h v1 1) < v3 → (kT h v0 = 9 ∧ kR h v0 5 = some (rf h v0 5) ∧ (kT h v0 = 9 ∧ sem G r_Wi_spreadBack [.ref v0, .ref v1, .int 3, .ref (rf h v0 5)] h (fun u2 h1 => ∃ x3 : Int32, u2 = some (.int x3) ∧ ((x3 = v2 → K none h1) ∧ (¬ x3 = v2 → X G M Q 78 [(0, .ref v0), (1, .ref v1), (2, .int x3), (3, .int v3), (5, .int 0)] [] h1)))))))) : X G M Q 45 [(0, .ref v0), (1, .ref v1), (2, .int v2), (3, .int v3)] [] h := by
  refine x_iload_n hM d_Wi_findLevels_45 rfl 3 rfl ?_
  refine x_aload_n hM d_Wi_findLevels_46 rfl 1 rfl ?_
  obtain ⟨c9, F⟩ := F
  refine x_geti hG hM ck_Wo 1 (Nat.le_of_ble_eq_true rfl) rfl rfl w_128 rfl d_Wi_findLevels_47 c9 ?_
  refine x_icmp_gt (tgt := 122) hM d_Wi_findLevels_50 (by decide) (fun q8 => ?_) (fun q8 => ?_)
  · replace F := F.1 q8
    exact x_return hM d_Wi_findLevels_122 rfl F
  · replace F := F.2 q8
    refine x_aload_n hM d_Wi_findLevels_53 rfl 0 rfl ?_
    refine x_aload_n hM d_Wi_findLevels_54 rfl 1 rfl ?_
    refine x_iconst (v := 3) hM d_Wi_findLevels_55 (by decide) ?_
    refine x_aload_n hM d_Wi_findLevels_56 rfl 0 rfl ?_
    obtain ⟨c6, F⟩ := F
    obtain ⟨c7, F⟩ := F
    refine x_getr hG hM ck_Wi 5 (Nat.le_of_ble_eq_true rfl) rfl rfl w_291 rfl d_Wi_findLevels_57 c6 c7 ?_
    obtain ⟨c5, F⟩ := F
    refine x_callV hG hM (r' := r_Wi_spreadBack) (ci := 8) [.ref v1, .int 3, .ref (rf h v0 5)] rfl rfl (Nat.le_of_ble_eq_true rfl) yk_Wi_spreadBack ⟨Nat.le_of_ble_eq_true rfl, Nat.le_of_ble_eq_true rfl⟩ w_659 w_661 ws_Wi_spreadBack rfl rfl (Nat.le_of_ble_eq_true rfl) d_Wi_findLevels_60 c5 (sem_mono F ?_)
    intro u2 h1 F
    obtain ⟨x3, rfl, F⟩ := F
    refine x_istore (lv2 := [(4, .int x3), (0, .ref v0), (1, .ref v1), (2, .int v2), (3, .int v3)]) hM d_Wi_findLevels_63 (Nat.le_of_ble_eq_true rfl) rfl ?_
    refine x_iload hM d_Wi_findLevels_65 0 rfl ?_
    refine x_iload_n hM d_Wi_findLevels_67 rfl 3 rfl ?_
    refine x_icmp_ne (tgt := 72) hM d_Wi_findLevels_68 (by decide) (fun q4 => ?_) (fun q4 => ?_)
    · replace F := F.2 q4
      refine x_iload hM d_Wi_findLevels_72 0 rfl ?_
      refine x_istore_n (lv2 := [(2, .int x3), (4, .int x3), (0, .ref v0), (1, .ref v1), (3, .int v3)]) hM d_Wi_findLevels_74 rfl (Nat.le_of_ble_eq_true rfl) rfl ?_
      refine x_iconst (v := 0) hM d_Wi_findLevels_75 (by decide) ?_
      refine x_istore (lv2 := [(5, .int 0), (2, .int x3), (4, .int x3), (0, .ref v0), (1, .ref v1), (3, .int v3)]) hM d_Wi_findLevels_76 (Nat.le_of_ble_eq_true rfl) rfl ?_
      refine x_sub [3, 4, 1, 5, 0] rfl ?_
      exact F
    · replace F := F.1 q4
      exact x_return hM d_Wi_findLevels_71 rfl F
set_option maxRecDepth 100000 in
set_option maxHeartbeats 4000000 in
theorem S_Wi_findLevels_78 {G : Gc} {M : Mc} {Q : State → Prop} {K : Option Value → Hp → Prop} (hG : gok G) (hM : mok G M r_Wi_findLevels Q K) (v0 : Nat) (v1 : Nat) (v2 : Int32) (v3 : Int32) (v5 : Int32) (h : Hp) (F : kT h v1 = 2 ∧ (((kI h v1 1) ≤ v5 → X G M Q 45 [(0, .ref v0), (1, .ref v1), (2, .int v2), (3, .int (v3 + 1))] [] h) ∧ (¬ (kI h v1 1) ≤ v5 → (kT h v0 = 9 ∧ kR h v0 7 = some (rf h v0 7) ∧ (kT h v0 = 9 ∧ kR h v0 5 = some (rf h v0 5) ∧ (kT h (rf h v0 5) = 50 ∧ vp_in v5 (kN h (rf h v0 5)) ∧ (∀ z1 : Int32, z1 = (if (kI h (rf h v0 5) (Int32.toNatClampNeg v5)) = (-1) then 0 else 1) → (kT h (rf h v0 7) = 51 ∧ vp_in v5 (kN h (rf h v0 7)) ∧ nb z1 ∧ (∀ h2 : Hp, h2 = wI h (rf h v0 7) (Int32.toNatClampNeg v5) z1 → X G M Q 78 [(0, .ref v0), (1, .ref v1), (2, .int v2), (3, .int v3), (5, .int (v5 + 1))] [] h2))))))))) : X G M Q 78 [(0, .ref v0), (1, .ref v1), (2, .int v2), (3, .int v3), (5, .int v5)] [] h := by
  refine x_iload hM d_Wi_findLevels_78 4 rfl ?_
  refine x_aload_n hM d_Wi_findLevels_80 rfl 1 rfl ?_
  obtain ⟨c14, F⟩ := F
  refine x_geti hG hM ck_Wo 1 (Nat.le_of_ble_eq_true rfl) rfl rfl w_128 rfl d_Wi_findLevels_81 c14 ?_
  refine x_icmp_ge (tgt := 116) hM d_Wi_findLevels_84 (by decide) (fun q13 => ?_) (fun q13 => ?_)
  · replace F := F.1 q13
    refine x_iinc (v := (v3 + 1)) (lv2 := [(3, .int (v3 + 1)), (0, .ref v0), (1, .ref v1), (2, .int v2), (5, .int v5)]) hM d_Wi_findLevels_116 (j := 3) rfl rfl (Nat.le_of_ble_eq_true rfl) rfl ?_
    refine x_goto (tgt := 45) hM d_Wi_findLevels_119 (by decide) ?_
    refine x_sub [1, 2, 3, 0] rfl ?_
    exact F
  · replace F := F.2 q13
    refine x_aload_n hM d_Wi_findLevels_87 rfl 0 rfl ?_
    obtain ⟨c11, F⟩ := F
    obtain ⟨c12, F⟩ := F
    refine x_getr hG hM ck_Wi 7 (Nat.le_of_ble_eq_true rfl) rfl rfl w_294 rfl d_Wi_findLevels_88 c11 c12 ?_
    refine x_iload hM d_Wi_findLevels_91 4 rfl ?_
    refine x_aload_n hM d_Wi_findLevels_93 rfl 0 rfl ?_
    obtain ⟨c9, F⟩ := F
    obtain ⟨c10, F⟩ := F
    refine x_getr hG hM ck_Wi 5 (Nat.le_of_ble_eq_true rfl) rfl rfl w_291 rfl d_Wi_findLevels_94 c9 c10 ?_
    refine x_iload hM d_Wi_findLevels_97 4 rfl ?_
    obtain ⟨c7, F⟩ := F
    obtain ⟨c8, F⟩ := F
    refine x_iaload hG hM d_Wi_findLevels_99 c7 c8 ?_
    refine x_iconst (v := (-1)) hM d_Wi_findLevels_100 (by decide) ?_
    have JJ : ∀ (z1 : Int32) (ez1 : z1 = (if (kI h (rf h v0 5) (Int32.toNatClampNeg v5)) = (-1) then 0 else 1)), X G M Q 109 [(0, .ref v0), (1, .ref v1), (2, .int v2), (3, .int v3), (5, .int v5)] [.int z1, .int v5, .ref (rf h v0 7)] h := by
      intro z1 ez1
      replace F := F _ ez1
      obtain ⟨c3, F⟩ := F
      obtain ⟨c4, F⟩ := F
      obtain ⟨c5, F⟩ := F
      obtain ⟨h2, eh2⟩ : ∃ z : Hp, z = wI h (rf h v0 7) (Int32.toNatClampNeg v5) z1 := ⟨_, rfl⟩
      replace F := F h2 eh2
      refine x_zastore hG hM d_Wi_findLevels_109 c3 c4 c5 ?_
      rw [← eh2]
      clear eh2
      refine x_iinc (v := (v5 + 1)) (lv2 := [(5, .int (v5 + 1)), (0, .ref v0), (1, .ref v1), (2, .int v2), (3, .int v3)]) hM d_Wi_findLevels_110 (j := 4) rfl rfl (Nat.le_of_ble_eq_true rfl) rfl ?_
      refine x_goto (tgt := 78) hM d_Wi_findLevels_113 (by decide) ?_
      refine x_sub [1, 2, 3, 4, 0] rfl ?_
      exact F
    refine x_icmp_eq (tgt := 108) hM d_Wi_findLevels_101 (by decide) (fun q6 => ?_) (fun q6 => ?_)
    · refine x_iconst (v := 0) hM d_Wi_findLevels_108 (by decide) ?_
      exact JJ _ (Eq.symm (if_pos q6))
    · refine x_iconst (v := 1) hM d_Wi_findLevels_104 (by decide) ?_
      refine x_goto (tgt := 109) hM d_Wi_findLevels_105 (by decide) ?_
      exact JJ _ (Eq.symm (if_neg q6))
theorem d_Wi_numbersOf_0 : decode b_Wi_numbersOf 0 = .ok (.iload_n 1, 1) := by decide +kernel
theorem d_Wi_numbersOf_1 : decode b_Wi_numbersOf 1 = .ok (.iconst 1, 1) := by decide +kernel
theorem d_Wi_numbersOf_2 : decode b_Wi_numbersOf 2 = .ok (.if_icmp .ne 8, 3) := by decide +kernel
theorem d_Wi_numbersOf_5 : decode b_Wi_numbersOf 5 = .ok (.aload_n 0, 1) := by decide +kernel
theorem d_Wi_numbersOf_6 : decode b_Wi_numbersOf 6 = .ok (.getfield 23, 3) := by decide +kernel
theorem d_Wi_numbersOf_9 : decode b_Wi_numbersOf 9 = .ok (.areturn, 1) := by decide +kernel
theorem d_Wi_numbersOf_10 : decode b_Wi_numbersOf 10 = .ok (.iload_n 1, 1) := by decide +kernel
theorem d_Wi_numbersOf_11 : decode b_Wi_numbersOf 11 = .ok (.iconst 2, 1) := by decide +kernel
theorem d_Wi_numbersOf_12 : decode b_Wi_numbersOf 12 = .ok (.if_icmp .ne 10, 3) := by decide +kernel
theorem d_Wi_numbersOf_15 : decode b_Wi_numbersOf 15 = .ok (.aload_n 0, 1) := by decide +kernel
theorem d_Wi_numbersOf_16 : decode b_Wi_numbersOf 16 = .ok (.getfield 27, 3) := by decide +kernel
theorem d_Wi_numbersOf_19 : decode b_Wi_numbersOf 19 = .ok (.goto 7, 3) := by decide +kernel
theorem d_Wi_numbersOf_22 : decode b_Wi_numbersOf 22 = .ok (.aload_n 0, 1) := by decide +kernel
theorem d_Wi_numbersOf_23 : decode b_Wi_numbersOf 23 = .ok (.getfield 30, 3) := by decide +kernel
theorem d_Wi_numbersOf_26 : decode b_Wi_numbersOf 26 = .ok (.areturn, 1) := by decide +kernel
set_option maxRecDepth 100000 in
set_option maxHeartbeats 4000000 in
theorem S_Wi_numbersOf_0 {G : Gc} {M : Mc} {Q : State → Prop} {K : Option Value → Hp → Prop} (hG : gok G) (hM : mok G M r_Wi_numbersOf Q K) (v0 : Nat) (v1 : Int32) (h : Hp) (F : (v1 = 1 → (kT h v0 = 9 ∧ kR h v0 3 = some (rf h v0 3) ∧ K (some (.ref (rf h v0 3))) h)) ∧ (¬ v1 = 1 → ((v1 = 2 → (kT h v0 = 9 ∧ kR h v0 4 = some (rf h v0 4) ∧ K (some (.ref (rf h v0 4))) h)) ∧ (¬ v1 = 2 → (kT h v0 = 9 ∧ kR h v0 5 = some (rf h v0 5) ∧ K (some (.ref (rf h v0 5))) h))))) : X G M Q 0 [(0, .ref v0), (1, .int v1)] [] h := by
  refine x_iload_n hM d_Wi_numbersOf_0 rfl 1 rfl ?_
  refine x_iconst (v := 1) hM d_Wi_numbersOf_1 (by decide) ?_
  refine x_icmp_ne (tgt := 10) hM d_Wi_numbersOf_2 (by decide) (fun q8 => ?_) (fun q8 => ?_)
  · replace F := F.2 q8
    refine x_iload_n hM d_Wi_numbersOf_10 rfl 1 rfl ?_
    refine x_iconst (v := 2) hM d_Wi_numbersOf_11 (by decide) ?_
    refine x_icmp_ne (tgt := 22) hM d_Wi_numbersOf_12 (by decide) (fun q5 => ?_) (fun q5 => ?_)
    · replace F := F.2 q5
      refine x_aload_n hM d_Wi_numbersOf_22 rfl 0 rfl ?_
      obtain ⟨c1, F⟩ := F
      obtain ⟨c2, F⟩ := F
      refine x_getr hG hM ck_Wi 5 (Nat.le_of_ble_eq_true rfl) rfl rfl w_291 rfl d_Wi_numbersOf_23 c1 c2 ?_
      exact x_areturn hM d_Wi_numbersOf_26 ⟨_, rfl, Or.inr ⟨_, rfl⟩⟩ F
    · replace F := F.1 q5
      refine x_aload_n hM d_Wi_numbersOf_15 rfl 0 rfl ?_
      obtain ⟨c3, F⟩ := F
      obtain ⟨c4, F⟩ := F
      refine x_getr hG hM ck_Wi 4 (Nat.le_of_ble_eq_true rfl) rfl rfl w_290 rfl d_Wi_numbersOf_16 c3 c4 ?_
      refine x_goto (tgt := 26) hM d_Wi_numbersOf_19 (by decide) ?_
      exact x_areturn hM d_Wi_numbersOf_26 ⟨_, rfl, Or.inr ⟨_, rfl⟩⟩ F
  · replace F := F.1 q8
    refine x_aload_n hM d_Wi_numbersOf_5 rfl 0 rfl ?_
    obtain ⟨c6, F⟩ := F
    obtain ⟨c7, F⟩ := F
    refine x_getr hG hM ck_Wi 3 (Nat.le_of_ble_eq_true rfl) rfl rfl w_289 rfl d_Wi_numbersOf_6 c6 c7 ?_
    exact x_areturn hM d_Wi_numbersOf_9 ⟨_, rfl, Or.inr ⟨_, rfl⟩⟩ F
theorem d_Wi_leastAct_0 : decode b_Wi_leastAct 0 = .ok (.aload_n 2, 1) := by decide +kernel
theorem d_Wi_leastAct_1 : decode b_Wi_leastAct 1 = .ok (.iload_n 3, 1) := by decide +kernel
theorem d_Wi_leastAct_2 : decode b_Wi_leastAct 2 = .ok (.iaload, 1) := by decide +kernel
theorem d_Wi_leastAct_3 : decode b_Wi_leastAct 3 = .ok (.ifCond .gt 5, 3) := by decide +kernel
theorem d_Wi_leastAct_6 : decode b_Wi_leastAct 6 = .ok (.iconst (-1), 1) := by decide +kernel
theorem d_Wi_leastAct_7 : decode b_Wi_leastAct 7 = .ok (.ireturn, 1) := by decide +kernel
theorem d_Wi_leastAct_8 : decode b_Wi_leastAct 8 = .ok (.iconst 0, 1) := by decide +kernel
theorem d_Wi_leastAct_9 : decode b_Wi_leastAct 9 = .ok (.istore 5, 2) := by decide +kernel
theorem d_Wi_leastAct_11 : decode b_Wi_leastAct 11 = .ok (.iload 5, 2) := by decide +kernel
theorem d_Wi_leastAct_13 : decode b_Wi_leastAct 13 = .ok (.aload_n 1, 1) := by decide +kernel
theorem d_Wi_leastAct_14 : decode b_Wi_leastAct 14 = .ok (.getfield 109, 3) := by decide +kernel
theorem d_Wi_leastAct_17 : decode b_Wi_leastAct 17 = .ok (.if_icmp .ge 44, 3) := by decide +kernel
theorem d_Wi_leastAct_20 : decode b_Wi_leastAct 20 = .ok (.aload_n 1, 1) := by decide +kernel
theorem d_Wi_leastAct_21 : decode b_Wi_leastAct 21 = .ok (.getfield 88, 3) := by decide +kernel
theorem d_Wi_leastAct_24 : decode b_Wi_leastAct 24 = .ok (.iload 5, 2) := by decide +kernel
theorem d_Wi_leastAct_26 : decode b_Wi_leastAct 26 = .ok (.aaload, 1) := by decide +kernel
theorem d_Wi_leastAct_27 : decode b_Wi_leastAct 27 = .ok (.iload_n 3, 1) := by decide +kernel
theorem d_Wi_leastAct_28 : decode b_Wi_leastAct 28 = .ok (.invokevirtual 112, 3) := by decide +kernel
theorem d_Wi_leastAct_31 : decode b_Wi_leastAct 31 = .ok (.ifCond .eq 24, 3) := by decide +kernel
theorem d_Wi_leastAct_34 : decode b_Wi_leastAct 34 = .ok (.aload_n 0, 1) := by decide +kernel
theorem d_Wi_leastAct_35 : decode b_Wi_leastAct 35 = .ok (.aload_n 1, 1) := by decide +kernel
theorem d_Wi_leastAct_36 : decode b_Wi_leastAct 36 = .ok (.getfield 88, 3) := by decide +kernel
theorem d_Wi_leastAct_39 : decode b_Wi_leastAct 39 = .ok (.iload 5, 2) := by decide +kernel
theorem d_Wi_leastAct_41 : decode b_Wi_leastAct 41 = .ok (.aaload, 1) := by decide +kernel
theorem d_Wi_leastAct_42 : decode b_Wi_leastAct 42 = .ok (.aload_n 2, 1) := by decide +kernel
theorem d_Wi_leastAct_43 : decode b_Wi_leastAct 43 = .ok (.iload_n 3, 1) := by decide +kernel
theorem d_Wi_leastAct_44 : decode b_Wi_leastAct 44 = .ok (.iload 4, 2) := by decide +kernel
theorem d_Wi_leastAct_46 : decode b_Wi_leastAct 46 = .ok (.invokevirtual 115, 3) := by decide +kernel
theorem d_Wi_leastAct_49 : decode b_Wi_leastAct 49 = .ok (.ifCond .eq 6, 3) := by decide +kernel
theorem d_Wi_leastAct_52 : decode b_Wi_leastAct 52 = .ok (.iload 5, 2) := by decide +kernel
theorem d_Wi_leastAct_54 : decode b_Wi_leastAct 54 = .ok (.ireturn, 1) := by decide +kernel
theorem d_Wi_leastAct_55 : decode b_Wi_leastAct 55 = .ok (.iinc 5 1, 3) := by decide +kernel
theorem d_Wi_leastAct_58 : decode b_Wi_leastAct 58 = .ok (.goto (-47), 3) := by decide +kernel
theorem d_Wi_leastAct_61 : decode b_Wi_leastAct 61 = .ok (.iconst (-1), 1) := by decide +kernel
theorem d_Wi_leastAct_62 : decode b_Wi_leastAct 62 = .ok (.ireturn, 1) := by decide +kernel
set_option maxRecDepth 100000 in
set_option maxHeartbeats 4000000 in
theorem S_Wi_leastAct_0 {G : Gc} {M : Mc} {Q : State → Prop} {K : Option Value → Hp → Prop} (hG : gok G) (hM : mok G M r_Wi_leastAct Q K) (v0 : Nat) (v1 : Nat) (v2 : Nat) (v3 : Int32) (v4 : Int32) (h : Hp) (F : kT h v2 = 50 ∧ vp_in v3 (kN h v2) ∧ ((0 < (kI h v2 (Int32.toNatClampNeg v3)) → X G M Q 11 [(0, .ref v0), (1, .ref v1), (2, .ref v2), (3, .int v3), (4, .int v4), (5, .int 0)] [] h) ∧ (¬ 0 < (kI h v2 (Int32.toNatClampNeg v3)) → K (some (.int (-1))) h))) : X G M Q 0 [(0, .ref v0), (1, .ref v1), (2, .ref v2), (3, .int v3), (4, .int v4)] [] h := by
  refine x_aload_n hM d_Wi_leastAct_0 rfl 2 rfl ?_
  refine x_iload_n hM d_Wi_leastAct_1 rfl 3 rfl ?_
  obtain ⟨c2, F⟩ := F
  obtain ⟨c3, F⟩ := F
  refine x_iaload hG hM d_Wi_leastAct_2 c2 c3 ?_
  refine x_if_gt (tgt := 8) hM d_Wi_leastAct_3 (by decide) (fun q1 => ?_) (fun q1 => ?_)
  · replace F := F.1 q1
    refine x_iconst (v := 0) hM d_Wi_leastAct_8 (by decide) ?_
    refine x_istore (lv2 := [(5, .int 0), (0, .ref v0), (1, .ref v1), (2, .ref v2), (3, .int v3), (4, .int v4)]) hM d_Wi_leastAct_9 (Nat.le_of_ble_eq_true rfl) rfl ?_
    refine x_sub [1, 2, 3, 4, 5, 0] rfl ?_
    exact F
  · replace F := F.2 q1
    refine x_iconst (v := (-1)) hM d_Wi_leastAct_6 (by decide) ?_
    exact x_ireturn hM d_Wi_leastAct_7 rfl F
set_option maxRecDepth 100000 in
set_option maxHeartbeats 4000000 in
theorem S_Wi_leastAct_11 {G : Gc} {M : Mc} {Q : State → Prop} {K : Option Value → Hp → Prop} (hG : gok G) (hM : mok G M r_Wi_leastAct Q K) (v0 : Nat) (v1 : Nat) (v2 : Nat) (v3 : Int32) (v4 : Int32) (v5 : Int32) (h : Hp) (F : kT h v1 = 2 ∧ (((kI h v1 2) ≤ v5 → K (some (.int (-1))) h) ∧ (¬ (kI h v1 2) ≤ v5 → (kT h v1 = 2 ∧ kR h v1 5 = some (rf h v1 5) ∧ (kT h (rf h v1 5) = 53 ∧ vp_in v5 (kN h (rf h v1 5)) ∧ kR h (rf h v1 5) (Int32.toNatClampNeg v5) = some (rf h (rf h v1 5) (Int32.toNatClampNeg v5)) ∧ (kT h (rf h (rf h v1 5) (Int32.toNatClampNeg v5)) = 3 ∧ sem G r_Ac_canBeDone [.ref (rf h (rf h v1 5) (Int32.toNatClampNeg v5)), .int v3] h (fun u2 h1 => ∃ x3 : Int32, u2 = some (.int x3) ∧ ((x3 = 0 → X G M Q 11 [(0, .ref v0), (1, .ref v1), (2, .ref v2), (3, .int v3), (4, .int v4), (5, .int (v5 + 1))] [] h1) ∧ (¬ x3 = 0 → (kT h1 v1 = 2 ∧ kR h1 v1 5 = some (rf h1 v1 5) ∧ (kT h1 (rf h1 v1 5) = 53 ∧ vp_in v5 (kN h1 (rf h1 v1 5)) ∧ kR h1 (rf h1 v1 5) (Int32.toNatClampNeg v5) = some (rf h1 (rf h1 v1 5) (Int32.toNatClampNeg v5)) ∧ (kT h1 v0 = 9 ∧ sem G r_Wi_gives [.ref v0, .ref (rf h1 (rf h1 v1 5) (Int32.toNatClampNeg v5)), .ref v2, .int v3, .int v4] h1 (fun u5 h4 => ∃ x6 : Int32, u5 = some (.int x6) ∧ ((x6 = 0 → X G M Q 11 [(0, .ref v0), (1, .ref v1), (2, .ref v2), (3, .int v3), (4, .int v4), (5, .int (v5 + 1))] [] h4) ∧ (¬ x6 = 0 → K (some (.int v5)) h4))))))))))))))) : X G M Q 11 [(0, .ref v0), (1, .ref v1), (2, .ref v2), (3, .int v3), (4, .int v4), (5, .int v5)] [] h := by
  refine x_iload hM d_Wi_leastAct_11 5 rfl ?_
  refine x_aload_n hM d_Wi_leastAct_13 rfl 1 rfl ?_
  obtain ⟨c22, F⟩ := F
  refine x_geti hG hM ck_Wo 2 (Nat.le_of_ble_eq_true rfl) rfl rfl w_139 rfl d_Wi_leastAct_14 c22 ?_
  refine x_icmp_ge (tgt := 61) hM d_Wi_leastAct_17 (by decide) (fun q21 => ?_) (fun q21 => ?_)
  · replace F := F.1 q21
    refine x_iconst (v := (-1)) hM d_Wi_leastAct_61 (by decide) ?_
    exact x_ireturn hM d_Wi_leastAct_62 rfl F
  · replace F := F.2 q21
    refine x_aload_n hM d_Wi_leastAct_20 rfl 1 rfl ?_
    obtain ⟨c19, F⟩ := F
    obtain ⟨c20, F⟩ := F
    refine x_getr hG hM ck_Wo 5 (Nat.le_of_ble_eq_true rfl) rfl rfl w_148 rfl d_Wi_leastAct_21 c19 c20 ?_
    refine x_iload hM d_Wi_leastAct_24 5 rfl ?_
    obtain ⟨c16, F⟩ := F
    obtain ⟨c17, F⟩ := F
    obtain ⟨c18, F⟩ := F
    refine x_aaload hG hM 53 rfl (Nat.le_of_ble_eq_true rfl) d_Wi_leastAct_26 c16 c17 c18 ?_
    refine x_iload_n hM d_Wi_leastAct_27 rfl 3 rfl ?_
    obtain ⟨c15, F⟩ := F
    refine x_callV hG hM (r' := r_Ac_canBeDone) (ci := 2) [.int v3] rfl rfl (Nat.le_of_ble_eq_true rfl) yk_Ac_canBeDone ⟨Nat.le_of_ble_eq_true rfl, Nat.le_of_ble_eq_true rfl⟩ w_780 w_631 w_632 rfl rfl (Nat.le_of_ble_eq_true rfl) d_Wi_leastAct_28 c15 (sem_mono F ?_)
    intro u2 h1 F
    obtain ⟨x3, rfl, F⟩ := F
    refine x_if_eq (tgt := 55) hM d_Wi_leastAct_31 (by decide) (fun q14 => ?_) (fun q14 => ?_)
    · replace F := F.1 q14
      refine x_iinc (v := (v5 + 1)) (lv2 := [(5, .int (v5 + 1)), (0, .ref v0), (1, .ref v1), (2, .ref v2), (3, .int v3), (4, .int v4)]) hM d_Wi_leastAct_55 (j := 5) rfl rfl (Nat.le_of_ble_eq_true rfl) rfl ?_
      refine x_goto (tgt := 11) hM d_Wi_leastAct_58 (by decide) ?_
      refine x_sub [1, 2, 3, 4, 5, 0] rfl ?_
      exact F
    · replace F := F.2 q14
      refine x_aload_n hM d_Wi_leastAct_34 rfl 0 rfl ?_
      refine x_aload_n hM d_Wi_leastAct_35 rfl 1 rfl ?_
      obtain ⟨c12, F⟩ := F
      obtain ⟨c13, F⟩ := F
      refine x_getr hG hM ck_Wo 5 (Nat.le_of_ble_eq_true rfl) rfl rfl w_148 rfl d_Wi_leastAct_36 c12 c13 ?_
      refine x_iload hM d_Wi_leastAct_39 5 rfl ?_
      obtain ⟨c9, F⟩ := F
      obtain ⟨c10, F⟩ := F
      obtain ⟨c11, F⟩ := F
      refine x_aaload hG hM 53 rfl (Nat.le_of_ble_eq_true rfl) d_Wi_leastAct_41 c9 c10 c11 ?_
      refine x_aload_n hM d_Wi_leastAct_42 rfl 2 rfl ?_
      refine x_iload_n hM d_Wi_leastAct_43 rfl 3 rfl ?_
      refine x_iload hM d_Wi_leastAct_44 4 rfl ?_
      obtain ⟨c8, F⟩ := F
      refine x_callV hG hM (r' := r_Wi_gives) (ci := 8) [.ref (rf h1 (rf h1 v1 5) (Int32.toNatClampNeg v5)), .ref v2, .int v3, .int v4] rfl rfl (Nat.le_of_ble_eq_true rfl) yk_Wi_gives ⟨Nat.le_of_ble_eq_true rfl, Nat.le_of_ble_eq_true rfl⟩ w_781 w_783 ws_Wi_gives rfl rfl (Nat.le_of_ble_eq_true rfl) d_Wi_leastAct_46 c8 (sem_mono F ?_)
      intro u5 h4 F
      obtain ⟨x6, rfl, F⟩ := F
      refine x_if_eq (tgt := 55) hM d_Wi_leastAct_49 (by decide) (fun q7 => ?_) (fun q7 => ?_)
      · replace F := F.1 q7
        refine x_iinc (v := (v5 + 1)) (lv2 := [(5, .int (v5 + 1)), (0, .ref v0), (1, .ref v1), (2, .ref v2), (3, .int v3), (4, .int v4)]) hM d_Wi_leastAct_55 (j := 5) rfl rfl (Nat.le_of_ble_eq_true rfl) rfl ?_
        refine x_goto (tgt := 11) hM d_Wi_leastAct_58 (by decide) ?_
        refine x_sub [1, 2, 3, 4, 5, 0] rfl ?_
        exact F
      · replace F := F.2 q7
        refine x_iload hM d_Wi_leastAct_52 5 rfl ?_
        exact x_ireturn hM d_Wi_leastAct_54 rfl F
theorem d_Wi_gives_0 : decode b_Wi_gives 0 = .ok (.iconst 0, 1) := by decide +kernel
theorem d_Wi_gives_1 : decode b_Wi_gives 1 = .ok (.istore 5, 2) := by decide +kernel
theorem d_Wi_gives_3 : decode b_Wi_gives 3 = .ok (.iconst 1, 1) := by decide +kernel
theorem d_Wi_gives_4 : decode b_Wi_gives 4 = .ok (.istore 6, 2) := by decide +kernel
theorem d_Wi_gives_6 : decode b_Wi_gives 6 = .ok (.iconst 0, 1) := by decide +kernel
theorem d_Wi_gives_7 : decode b_Wi_gives 7 = .ok (.istore 7, 2) := by decide +kernel
theorem d_Wi_gives_9 : decode b_Wi_gives 9 = .ok (.iload 7, 2) := by decide +kernel
theorem d_Wi_gives_11 : decode b_Wi_gives 11 = .ok (.aload_n 1, 1) := by decide +kernel
theorem d_Wi_gives_12 : decode b_Wi_gives 12 = .ok (.getfield 95, 3) := by decide +kernel
theorem d_Wi_gives_15 : decode b_Wi_gives 15 = .ok (.if_icmp .ge 80, 3) := by decide +kernel
theorem d_Wi_gives_18 : decode b_Wi_gives 18 = .ok (.aload_n 2, 1) := by decide +kernel
theorem d_Wi_gives_19 : decode b_Wi_gives 19 = .ok (.aload_n 1, 1) := by decide +kernel
theorem d_Wi_gives_20 : decode b_Wi_gives 20 = .ok (.getfield 100, 3) := by decide +kernel
theorem d_Wi_gives_23 : decode b_Wi_gives 23 = .ok (.iload 7, 2) := by decide +kernel
theorem d_Wi_gives_25 : decode b_Wi_gives 25 = .ok (.aaload, 1) := by decide +kernel
theorem d_Wi_gives_26 : decode b_Wi_gives 26 = .ok (.getfield 104, 3) := by decide +kernel
theorem d_Wi_gives_29 : decode b_Wi_gives 29 = .ok (.iload_n 3, 1) := by decide +kernel
theorem d_Wi_gives_30 : decode b_Wi_gives 30 = .ok (.iaload, 1) := by decide +kernel
theorem d_Wi_gives_31 : decode b_Wi_gives 31 = .ok (.iaload, 1) := by decide +kernel
theorem d_Wi_gives_32 : decode b_Wi_gives 32 = .ok (.istore 8, 2) := by decide +kernel
theorem d_Wi_gives_34 : decode b_Wi_gives 34 = .ok (.iload 8, 2) := by decide +kernel
theorem d_Wi_gives_36 : decode b_Wi_gives 36 = .ok (.iconst (-1), 1) := by decide +kernel
theorem d_Wi_gives_37 : decode b_Wi_gives 37 = .ok (.if_icmp .eq 15, 3) := by decide +kernel
theorem d_Wi_gives_40 : decode b_Wi_gives 40 = .ok (.iload 8, 2) := by decide +kernel
theorem d_Wi_gives_42 : decode b_Wi_gives 42 = .ok (.aload_n 2, 1) := by decide +kernel
theorem d_Wi_gives_43 : decode b_Wi_gives 43 = .ok (.iload_n 3, 1) := by decide +kernel
theorem d_Wi_gives_44 : decode b_Wi_gives 44 = .ok (.iaload, 1) := by decide +kernel
theorem d_Wi_gives_45 : decode b_Wi_gives 45 = .ok (.if_icmp .ge 7, 3) := by decide +kernel
theorem d_Wi_gives_48 : decode b_Wi_gives 48 = .ok (.iconst 1, 1) := by decide +kernel
theorem d_Wi_gives_49 : decode b_Wi_gives 49 = .ok (.goto 4, 3) := by decide +kernel
theorem d_Wi_gives_52 : decode b_Wi_gives 52 = .ok (.iconst 0, 1) := by decide +kernel
theorem d_Wi_gives_53 : decode b_Wi_gives 53 = .ok (.istore 9, 2) := by decide +kernel
theorem d_Wi_gives_55 : decode b_Wi_gives 55 = .ok (.iload 5, 2) := by decide +kernel
theorem d_Wi_gives_57 : decode b_Wi_gives 57 = .ok (.iload 9, 2) := by decide +kernel
theorem d_Wi_gives_59 : decode b_Wi_gives 59 = .ok (.ior, 1) := by decide +kernel
theorem d_Wi_gives_60 : decode b_Wi_gives 60 = .ok (.istore 5, 2) := by decide +kernel
theorem d_Wi_gives_62 : decode b_Wi_gives 62 = .ok (.iload 6, 2) := by decide +kernel
theorem d_Wi_gives_64 : decode b_Wi_gives 64 = .ok (.iload 4, 2) := by decide +kernel
theorem d_Wi_gives_66 : decode b_Wi_gives 66 = .ok (.iconst 2, 1) := by decide +kernel
theorem d_Wi_gives_67 : decode b_Wi_gives 67 = .ok (.if_icmp .ne 8, 3) := by decide +kernel
theorem d_Wi_gives_70 : decode b_Wi_gives 70 = .ok (.iload 9, 2) := by decide +kernel
theorem d_Wi_gives_72 : decode b_Wi_gives 72 = .ok (.goto 14, 3) := by decide +kernel
theorem d_Wi_gives_75 : decode b_Wi_gives 75 = .ok (.iload 8, 2) := by decide +kernel
theorem d_Wi_gives_77 : decode b_Wi_gives 77 = .ok (.iconst (-1), 1) := by decide +kernel
theorem d_Wi_gives_78 : decode b_Wi_gives 78 = .ok (.if_icmp .eq 7, 3) := by decide +kernel
theorem d_Wi_gives_81 : decode b_Wi_gives 81 = .ok (.iconst 1, 1) := by decide +kernel
theorem d_Wi_gives_82 : decode b_Wi_gives 82 = .ok (.goto 4, 3) := by decide +kernel
theorem d_Wi_gives_85 : decode b_Wi_gives 85 = .ok (.iconst 0, 1) := by decide +kernel
theorem d_Wi_gives_86 : decode b_Wi_gives 86 = .ok (.iand, 1) := by decide +kernel
theorem d_Wi_gives_87 : decode b_Wi_gives 87 = .ok (.istore 6, 2) := by decide +kernel
theorem d_Wi_gives_89 : decode b_Wi_gives 89 = .ok (.iinc 7 1, 3) := by decide +kernel
theorem d_Wi_gives_92 : decode b_Wi_gives 92 = .ok (.goto (-83), 3) := by decide +kernel
theorem d_Wi_gives_95 : decode b_Wi_gives 95 = .ok (.iload 5, 2) := by decide +kernel
theorem d_Wi_gives_97 : decode b_Wi_gives 97 = .ok (.ifCond .eq 18, 3) := by decide +kernel
theorem d_Wi_gives_100 : decode b_Wi_gives 100 = .ok (.iload 6, 2) := by decide +kernel
theorem d_Wi_gives_102 : decode b_Wi_gives 102 = .ok (.ifCond .ne 9, 3) := by decide +kernel
theorem d_Wi_gives_105 : decode b_Wi_gives 105 = .ok (.iload 4, 2) := by decide +kernel
theorem d_Wi_gives_107 : decode b_Wi_gives 107 = .ok (.iconst 1, 1) := by decide +kernel
theorem d_Wi_gives_108 : decode b_Wi_gives 108 = .ok (.if_icmp .ne 7, 3) := by decide +kernel
theorem d_Wi_gives_111 : decode b_Wi_gives 111 = .ok (.iconst 1, 1) := by decide +kernel
theorem d_Wi_gives_112 : decode b_Wi_gives 112 = .ok (.goto 4, 3) := by decide +kernel
theorem d_Wi_gives_115 : decode b_Wi_gives 115 = .ok (.iconst 0, 1) := by decide +kernel
theorem d_Wi_gives_116 : decode b_Wi_gives 116 = .ok (.ireturn, 1) := by decide +kernel
set_option maxRecDepth 100000 in
set_option maxHeartbeats 4000000 in
theorem S_Wi_gives_0 {G : Gc} {M : Mc} {Q : State → Prop} {K : Option Value → Hp → Prop} (hG : gok G) (hM : mok G M r_Wi_gives Q K) (v0 : Nat) (v1 : Nat) (v2 : Nat) (v3 : Int32) (v4 : Int32) (h : Hp) (F : X G M Q 9 [(1, .ref v1), (2, .ref v2), (3, .int v3), (4, .int v4), (5, .int 0), (6, .int 1), (7, .int 0)] [] h) : X G M Q 0 [(0, .ref v0), (1, .ref v1), (2, .ref v2), (3, .int v3), (4, .int v4)] [] h := by
  refine x_iconst (v := 0) hM d_Wi_gives_0 (by decide) ?_
  refine x_istore (lv2 := [(5, .int 0), (0, .ref v0), (1, .ref v1), (2, .ref v2), (3, .int v3), (4, .int v4)]) hM d_Wi_gives_1 (Nat.le_of_ble_eq_true rfl) rfl ?_
  refine x_iconst (v := 1) hM d_Wi_gives_3 (by decide) ?_
  refine x_istore (lv2 := [(6, .int 1), (5, .int 0), (0, .ref v0), (1, .ref v1), (2, .ref v2), (3, .int v3), (4, .int v4)]) hM d_Wi_gives_4 (Nat.le_of_ble_eq_true rfl) rfl ?_
  refine x_iconst (v := 0) hM d_Wi_gives_6 (by decide) ?_
  refine x_istore (lv2 := [(7, .int 0), (6, .int 1), (5, .int 0), (0, .ref v0), (1, .ref v1), (2, .ref v2), (3, .int v3), (4, .int v4)]) hM d_Wi_gives_7 (Nat.le_of_ble_eq_true rfl) rfl ?_
  refine x_sub [4, 5, 6, 7, 2, 1, 0] rfl ?_
  exact F
set_option maxRecDepth 100000 in
set_option maxHeartbeats 4000000 in
theorem S_Wi_gives_9 {G : Gc} {M : Mc} {Q : State → Prop} {K : Option Value → Hp → Prop} (hG : gok G) (hM : mok G M r_Wi_gives Q K) (v1 : Nat) (v2 : Nat) (v3 : Int32) (v4 : Int32) (v5 : Int32) (v6 : Int32) (v7 : Int32) (h : Hp) (F : kT h v1 = 3 ∧ (((kI h v1 2) ≤ v7 → (∀ z1 : Int32, z1 = (if v5 = 0 then 0 else (if v6 = 0 then (if v4 = 1 then 1 else 0) else 1)) → (nb z1 ∧ K (some (.int z1)) h))) ∧ (¬ (kI h v1 2) ≤ v7 → (kT h v1 = 3 ∧ kR h v1 1 = some (rf h v1 1) ∧ (kT h (rf h v1 1) = 54 ∧ vp_in v7 (kN h (rf h v1 1)) ∧ kR h (rf h v1 1) (Int32.toNatClampNeg v7) = some (rf h (rf h v1 1) (Int32.toNatClampNeg v7)) ∧ (kT h (rf h (rf h v1 1) (Int32.toNatClampNeg v7)) = 4 ∧ kR h (rf h (rf h v1 1) (Int32.toNatClampNeg v7)) 1 = some (rf h (rf h (rf h v1 1) (Int32.toNatClampNeg v7)) 1) ∧ (kT h (rf h (rf h (rf h v1 1) (Int32.toNatClampNeg v7)) 1) = 50 ∧ vp_in v3 (kN h (rf h (rf h (rf h v1 1) (Int32.toNatClampNeg v7)) 1)) ∧ (kT h v2 = 50 ∧ vp_in (kI h (rf h (rf h (rf h v1 1) (Int32.toNatClampNeg v7)) 1) (Int32.toNatClampNeg v3)) (kN h v2) ∧ ((¬ (kI h v2 (Int32.toNatClampNeg (kI h (rf h (rf h (rf h v1 1) (Int32.toNatClampNeg v7)) 1) (Int32.toNatClampNeg v3)))) = (-1) → (kT h v2 = 50 ∧ vp_in v3 (kN h v2))) ∧ (∀ z5 : Int32, z5 = (if (kI h v2 (Int32.toNatClampNeg (kI h (rf h (rf h (rf h v1 1) (Int32.toNatClampNeg v7)) 1) (Int32.toNatClampNeg v3)))) = (-1) then 0 else (if (kI h v2 (Int32.toNatClampNeg v3)) ≤ (kI h v2 (Int32.toNatClampNeg (kI h (rf h (rf h (rf h v1 1) (Int32.toNatClampNeg v7)) 1) (Int32.toNatClampNeg v3)))) then 0 else 1)) → (∀ z6 : Int32, z6 = (if v4 = 2 then z5 else (if (kI h v2 (Int32.toNatClampNeg (kI h (rf h (rf h (rf h v1 1) (Int32.toNatClampNeg v7)) 1) (Int32.toNatClampNeg v3)))) = (-1) then 0 else 1)) → X G M Q 9 [(1, .ref v1), (2, .ref v2), (3, .int v3), (4, .int v4), (5, .int (v5 ||| z5)), (6, .int (v6 &&& z6)), (7, .int (v7 + 1))] [] h))))))))))) : X G M Q 9 [(1, .ref v1), (2, .ref v2), (3, .int v3), (4, .int v4), (5, .int v5), (6, .int v6), (7, .int v7)] [] h := by
  refine x_iload hM d_Wi_gives_9 6 rfl ?_
  refine x_aload_n hM d_Wi_gives_11 rfl 0 rfl ?_
  obtain ⟨c25, F⟩ := F
  refine x_geti hG hM ck_Ac 2 (Nat.le_of_ble_eq_true rfl) rfl rfl w_108 rfl d_Wi_gives_12 c25 ?_
  refine x_icmp_ge (tgt := 95) hM d_Wi_gives_15 (by decide) (fun q24 => ?_) (fun q24 => ?_)
  · replace F := F.1 q24
    refine x_iload hM d_Wi_gives_95 4 rfl ?_
    have JJ : ∀ (z1 : Int32) (ez1 : z1 = (if v5 = 0 then 0 else (if v6 = 0 then (if v4 = 1 then 1 else 0) else 1))), X G M Q 116 [] [.int z1] h := by
      intro z1 ez1
      replace F := F _ ez1
      exact x_zreturn hM d_Wi_gives_116 rfl F.1 F.2
    refine x_if_eq (tgt := 115) hM d_Wi_gives_97 (by decide) (fun q2 => ?_) (fun q2 => ?_)
    · refine x_iconst (v := 0) hM d_Wi_gives_115 (by decide) ?_
      refine x_sub [] rfl ?_
      exact JJ _ (Eq.symm (if_pos q2))
    · refine x_iload hM d_Wi_gives_100 5 rfl ?_
      refine x_if_ne (tgt := 111) hM d_Wi_gives_102 (by decide) (fun q3 => ?_) (fun q3 => ?_)
      · refine x_iconst (v := 1) hM d_Wi_gives_111 (by decide) ?_
        refine x_goto (tgt := 116) hM d_Wi_gives_112 (by decide) ?_
        refine x_sub [] rfl ?_
        exact JJ _ (Eq.symm (Eq.trans (if_neg q2) (if_neg q3)))
      · refine x_iload hM d_Wi_gives_105 3 rfl ?_
        refine x_iconst (v := 1) hM d_Wi_gives_107 (by decide) ?_
        refine x_icmp_ne (tgt := 115) hM d_Wi_gives_108 (by decide) (fun q4 => ?_) (fun q4 => ?_)
        · refine x_iconst (v := 0) hM d_Wi_gives_115 (by decide) ?_
          refine x_sub [] rfl ?_
          exact JJ _ (Eq.symm (Eq.trans (if_neg q2) (Eq.trans (if_pos q3) (if_neg q4))))
        · refine x_iconst (v := 1) hM d_Wi_gives_111 (by decide) ?_
          refine x_goto (tgt := 116) hM d_Wi_gives_112 (by decide) ?_
          refine x_sub [] rfl ?_
          exact JJ _ (Eq.symm (Eq.trans (if_neg q2) (Eq.trans (if_pos q3) (if_pos q4))))
  · replace F := F.2 q24
    refine x_aload_n hM d_Wi_gives_18 rfl 1 rfl ?_
    refine x_aload_n hM d_Wi_gives_19 rfl 0 rfl ?_
    obtain ⟨c22, F⟩ := F
    obtain ⟨c23, F⟩ := F
    refine x_getr hG hM ck_Ac 1 (Nat.le_of_ble_eq_true rfl) rfl rfl w_100 rfl d_Wi_gives_20 c22 c23 ?_
    refine x_iload hM d_Wi_gives_23 6 rfl ?_
    obtain ⟨c19, F⟩ := F
    obtain ⟨c20, F⟩ := F
    obtain ⟨c21, F⟩ := F
    refine x_aaload hG hM 54 rfl (Nat.le_of_ble_eq_true rfl) d_Wi_gives_25 c19 c20 c21 ?_
    obtain ⟨c17, F⟩ := F
    obtain ⟨c18, F⟩ := F
    refine x_getr hG hM ck_Ou 1 (Nat.le_of_ble_eq_true rfl) rfl rfl w_81 rfl d_Wi_gives_26 c17 c18 ?_
    refine x_iload_n hM d_Wi_gives_29 rfl 2 rfl ?_
    obtain ⟨c15, F⟩ := F
    obtain ⟨c16, F⟩ := F
    refine x_iaload hG hM d_Wi_gives_30 c15 c16 ?_
    obtain ⟨c13, F⟩ := F
    obtain ⟨c14, F⟩ := F
    refine x_iaload hG hM d_Wi_gives_31 c13 c14 ?_
    refine x_istore (lv2 := [(8, .int (kI h v2 (Int32.toNatClampNeg (kI h (rf h (rf h (rf h v1 1) (Int32.toNatClampNeg v7)) 1) (Int32.toNatClampNeg v3))))), (1, .ref v1), (2, .ref v2), (3, .int v3), (4, .int v4), (5, .int v5), (6, .int v6), (7, .int v7)]) hM d_Wi_gives_32 (Nat.le_of_ble_eq_true rfl) rfl ?_
    refine x_iload hM d_Wi_gives_34 0 rfl ?_
    refine x_iconst (v := (-1)) hM d_Wi_gives_36 (by decide) ?_
    obtain ⟨S, F⟩ := F
    have JJ : ∀ (z5 : Int32) (ez5 : z5 = (if (kI h v2 (Int32.toNatClampNeg (kI h (rf h (rf h (rf h v1 1) (Int32.toNatClampNeg v7)) 1) (Int32.toNatClampNeg v3)))) = (-1) then 0 else (if (kI h v2 (Int32.toNatClampNeg v3)) ≤ (kI h v2 (Int32.toNatClampNeg (kI h (rf h (rf h (rf h v1 1) (Int32.toNatClampNeg v7)) 1) (Int32.toNatClampNeg v3)))) then 0 else 1))), X G M Q 53 [(1, .ref v1), (2, .ref v2), (3, .int v3), (4, .int v4), (5, .int v5), (6, .int v6), (7, .int v7), (8, .int (kI h v2 (Int32.toNatClampNeg (kI h (rf h (rf h (rf h v1 1) (Int32.toNatClampNeg v7)) 1) (Int32.toNatClampNeg v3)))))] [.int z5] h := by
      intro z5 ez5
      replace F := F _ ez5
      refine x_istore (lv2 := [(9, .int z5), (1, .ref v1), (2, .ref v2), (3, .int v3), (4, .int v4), (5, .int v5), (6, .int v6), (7, .int v7), (8, .int (kI h v2 (Int32.toNatClampNeg (kI h (rf h (rf h (rf h v1 1) (Int32.toNatClampNeg v7)) 1) (Int32.toNatClampNeg v3)))))]) hM d_Wi_gives_53 (Nat.le_of_ble_eq_true rfl) rfl ?_
      refine x_iload hM d_Wi_gives_55 5 rfl ?_
      refine x_iload hM d_Wi_gives_57 0 rfl ?_
      refine x_ior hM d_Wi_gives_59 ?_
      refine x_istore (lv2 := [(5, .int (v5 ||| z5)), (9, .int z5), (1, .ref v1), (2, .ref v2), (3, .int v3), (4, .int v4), (6, .int v6), (7, .int v7), (8, .int (kI h v2 (Int32.toNatClampNeg (kI h (rf h (rf h (rf h v1 1) (Int32.toNatClampNeg v7)) 1) (Int32.toNatClampNeg v3)))))]) hM d_Wi_gives_60 (Nat.le_of_ble_eq_true rfl) rfl ?_
      refine x_iload hM d_Wi_gives_62 6 rfl ?_
      refine x_iload hM d_Wi_gives_64 5 rfl ?_
      refine x_iconst (v := 2) hM d_Wi_gives_66 (by decide) ?_
      have JJ : ∀ (z6 : Int32) (ez6 : z6 = (if v4 = 2 then z5 else (if (kI h v2 (Int32.toNatClampNeg (kI h (rf h (rf h (rf h v1 1) (Int32.toNatClampNeg v7)) 1) (Int32.toNatClampNeg v3)))) = (-1) then 0 else 1))), X G M Q 86 [(1, .ref v1), (2, .ref v2), (3, .int v3), (4, .int v4), (5, .int (v5 ||| z5)), (7, .int v7)] [.int z6, .int v6] h := by
        intro z6 ez6
        replace F := F _ ez6
        refine x_iand hM d_Wi_gives_86 ?_
        refine x_istore (lv2 := [(6, .int (v6 &&& z6)), (1, .ref v1), (2, .ref v2), (3, .int v3), (4, .int v4), (5, .int (v5 ||| z5)), (7, .int v7)]) hM d_Wi_gives_87 (Nat.le_of_ble_eq_true rfl) rfl ?_
        refine x_iinc (v := (v7 + 1)) (lv2 := [(7, .int (v7 + 1)), (6, .int (v6 &&& z6)), (1, .ref v1), (2, .ref v2), (3, .int v3), (4, .int v4), (5, .int (v5 ||| z5))]) hM d_Wi_gives_89 (j := 6) rfl rfl (Nat.le_of_ble_eq_true rfl) rfl ?_
        refine x_goto (tgt := 9) hM d_Wi_gives_92 (by decide) ?_
        refine x_sub [2, 3, 4, 5, 6, 1, 0] rfl ?_
        exact F
      refine x_icmp_ne (tgt := 75) hM d_Wi_gives_67 (by decide) (fun q7 => ?_) (fun q7 => ?_)
      · refine x_iload hM d_Wi_gives_75 8 rfl ?_
        refine x_iconst (v := (-1)) hM d_Wi_gives_77 (by decide) ?_
        refine x_icmp_eq (tgt := 85) hM d_Wi_gives_78 (by decide) (fun q8 => ?_) (fun q8 => ?_)
        · refine x_iconst (v := 0) hM d_Wi_gives_85 (by decide) ?_
          refine x_sub [2, 3, 4, 5, 0, 7] rfl ?_
          exact JJ _ (Eq.symm (Eq.trans (if_neg q7) (if_pos q8)))
        · refine x_iconst (v := 1) hM d_Wi_gives_81 (by decide) ?_
          refine x_goto (tgt := 86) hM d_Wi_gives_82 (by decide) ?_
          refine x_sub [2, 3, 4, 5, 0, 7] rfl ?_
          exact JJ _ (Eq.symm (Eq.trans (if_neg q7) (if_neg q8)))
      · refine x_iload hM d_Wi_gives_70 1 rfl ?_
        refine x_goto (tgt := 86) hM d_Wi_gives_72 (by decide) ?_
        refine x_sub [2, 3, 4, 5, 0, 7] rfl ?_
        exact JJ _ (Eq.symm (if_pos q7))
    refine x_icmp_eq (tgt := 52) hM d_Wi_gives_37 (by decide) (fun q9 => ?_) (fun q9 => ?_)
    · refine x_iconst (v := 0) hM d_Wi_gives_52 (by decide) ?_
      refine x_sub [1, 2, 3, 4, 5, 6, 7, 0] rfl ?_
      exact JJ _ (Eq.symm (if_pos q9))
    · replace S := S q9
      refine x_iload hM d_Wi_gives_40 0 rfl ?_
      refine x_aload_n hM d_Wi_gives_42 rfl 2 rfl ?_
      refine x_iload_n hM d_Wi_gives_43 rfl 3 rfl ?_
      obtain ⟨c10, S⟩ := S
      have c11 := S
      refine x_iaload hG hM d_Wi_gives_44 c10 c11 ?_
      refine x_icmp_ge (tgt := 52) hM d_Wi_gives_45 (by decide) (fun q12 => ?_) (fun q12 => ?_)
      · refine x_iconst (v := 0) hM d_Wi_gives_52 (by decide) ?_
        refine x_sub [1, 2, 3, 4, 5, 6, 7, 0] rfl ?_
        exact JJ _ (Eq.symm (Eq.trans (if_neg q9) (if_pos q12)))
      · refine x_iconst (v := 1) hM d_Wi_gives_48 (by decide) ?_
        refine x_goto (tgt := 53) hM d_Wi_gives_49 (by decide) ?_
        refine x_sub [1, 2, 3, 4, 5, 6, 7, 0] rfl ?_
        exact JJ _ (Eq.symm (Eq.trans (if_neg q9) (if_neg q12)))
