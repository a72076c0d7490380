theorem d_Wo_pack_0 : decode b_Wo_pack 0 = .ok (.iload_n 1, 1) := by decide +kernel
theorem d_Wo_pack_1 : decode b_Wo_pack 1 = .ok (.istore_n 2, 1) := by decide +kernel
theorem d_Wo_pack_2 : decode b_Wo_pack 2 = .ok (.iconst 0, 1) := by decide +kernel
theorem d_Wo_pack_3 : decode b_Wo_pack 3 = .ok (.istore_n 3, 1) := by decide +kernel
theorem d_Wo_pack_4 : decode b_Wo_pack 4 = .ok (.iconst 0, 1) := by decide +kernel
theorem d_Wo_pack_5 : decode b_Wo_pack 5 = .ok (.istore 4, 2) := by decide +kernel
theorem d_Wo_pack_7 : decode b_Wo_pack 7 = .ok (.iload 4, 2) := by decide +kernel
theorem d_Wo_pack_9 : decode b_Wo_pack 9 = .ok (.aload_n 0, 1) := by decide +kernel
theorem d_Wo_pack_10 : decode b_Wo_pack 10 = .ok (.getfield 9, 3) := by decide +kernel
theorem d_Wo_pack_13 : decode b_Wo_pack 13 = .ok (.if_icmp .ge 40, 3) := by decide +kernel
theorem d_Wo_pack_16 : decode b_Wo_pack 16 = .ok (.aload_n 0, 1) := by decide +kernel
theorem d_Wo_pack_17 : decode b_Wo_pack 17 = .ok (.getfield 21, 3) := by decide +kernel
theorem d_Wo_pack_20 : decode b_Wo_pack 20 = .ok (.iload 4, 2) := by decide +kernel
theorem d_Wo_pack_22 : decode b_Wo_pack 22 = .ok (.iaload, 1) := by decide +kernel
theorem d_Wo_pack_23 : decode b_Wo_pack 23 = .ok (.istore 5, 2) := by decide +kernel
theorem d_Wo_pack_25 : decode b_Wo_pack 25 = .ok (.iload 5, 2) := by decide +kernel
theorem d_Wo_pack_27 : decode b_Wo_pack 27 = .ok (.ifCond .le 20, 3) := by decide +kernel
theorem d_Wo_pack_30 : decode b_Wo_pack 30 = .ok (.iload_n 3, 1) := by decide +kernel
theorem d_Wo_pack_31 : decode b_Wo_pack 31 = .ok (.iload_n 2, 1) := by decide +kernel
theorem d_Wo_pack_32 : decode b_Wo_pack 32 = .ok (.iload 5, 2) := by decide +kernel
theorem d_Wo_pack_34 : decode b_Wo_pack 34 = .ok (.irem, 1) := by decide +kernel
theorem d_Wo_pack_35 : decode b_Wo_pack 35 = .ok (.iconst 2, 1) := by decide +kernel
theorem d_Wo_pack_36 : decode b_Wo_pack 36 = .ok (.iload 4, 2) := by decide +kernel
theorem d_Wo_pack_38 : decode b_Wo_pack 38 = .ok (.imul, 1) := by decide +kernel
theorem d_Wo_pack_39 : decode b_Wo_pack 39 = .ok (.ishl, 1) := by decide +kernel
theorem d_Wo_pack_40 : decode b_Wo_pack 40 = .ok (.ior, 1) := by decide +kernel
theorem d_Wo_pack_41 : decode b_Wo_pack 41 = .ok (.istore_n 3, 1) := by decide +kernel
theorem d_Wo_pack_42 : decode b_Wo_pack 42 = .ok (.iload_n 2, 1) := by decide +kernel
theorem d_Wo_pack_43 : decode b_Wo_pack 43 = .ok (.iload 5, 2) := by decide +kernel
theorem d_Wo_pack_45 : decode b_Wo_pack 45 = .ok (.idiv, 1) := by decide +kernel
theorem d_Wo_pack_46 : decode b_Wo_pack 46 = .ok (.istore_n 2, 1) := by decide +kernel
theorem d_Wo_pack_47 : decode b_Wo_pack 47 = .ok (.iinc 4 1, 3) := by decide +kernel
theorem d_Wo_pack_50 : decode b_Wo_pack 50 = .ok (.goto (-43), 3) := by decide +kernel
theorem d_Wo_pack_53 : decode b_Wo_pack 53 = .ok (.iload_n 3, 1) := by decide +kernel
theorem d_Wo_pack_54 : decode b_Wo_pack 54 = .ok (.ireturn, 1) := by decide +kernel
set_option maxRecDepth 100000 in
set_option maxHeartbeats 4000000 in
theorem S_Wo_pack_0 {G : Gc} {M : Mc} {Q : State → Prop} {K : Option Value → Hp → Prop} (hG : gok G) (hM : mok G M r_Wo_pack Q K) (v0 : Nat) (v1 : Int32) (h : Hp) (F : X G M Q 7 [(0, .ref v0), (2, .int v1), (3, .int 0), (4, .int 0)] [] h) : X G M Q 0 [(0, .ref v0), (1, .int v1)] [] h := by
  refine x_iload_n hM d_Wo_pack_0 rfl 1 rfl ?_
  refine x_istore_n (lv2 := [(2, .int v1), (0, .ref v0), (1, .int v1)]) hM d_Wo_pack_1 rfl (Nat.le_of_ble_eq_true rfl) rfl ?_
  refine x_iconst (v := 0) hM d_Wo_pack_2 (by decide) ?_
  refine x_istore_n (lv2 := [(3, .int 0), (2, .int v1), (0, .ref v0), (1, .int v1)]) hM d_Wo_pack_3 rfl (Nat.le_of_ble_eq_true rfl) rfl ?_
  refine x_iconst (v := 0) hM d_Wo_pack_4 (by decide) ?_
  refine x_istore (lv2 := [(4, .int 0), (3, .int 0), (2, .int v1), (0, .ref v0), (1, .int v1)]) hM d_Wo_pack_5 (Nat.le_of_ble_eq_true rfl) rfl ?_
  refine x_sub [3, 2, 1, 0] rfl ?_
  exact F
set_option maxRecDepth 100000 in
set_option maxHeartbeats 4000000 in
theorem S_Wo_pack_7 {G : Gc} {M : Mc} {Q : State → Prop} {K : Option Value → Hp → Prop} (hG : gok G) (hM : mok G M r_Wo_pack Q K) (v0 : Nat) (v2 : Int32) (v3 : Int32) (v4 : Int32) (h : Hp) (F : kT h v0 = 2 ∧ (((kI h v0 0) ≤ v4 → K (some (.int v3)) h) ∧ (¬ (kI h v0 0) ≤ v4 → (kT h v0 = 2 ∧ kR h v0 3 = some (rf h v0 3) ∧ (kT h (rf h v0 3) = 50 ∧ vp_in v4 (kN h (rf h v0 3)) ∧ ((¬ (kI h (rf h v0 3) (Int32.toNatClampNeg v4)) ≤ 0 → (¬ (kI h (rf h v0 3) (Int32.toNatClampNeg v4)) = 0 ∧ ¬ (kI h (rf h v0 3) (Int32.toNatClampNeg v4)) = 0)) ∧ (∀ z1 : Int32, z1 = (if (kI h (rf h v0 3) (Int32.toNatClampNeg v4)) ≤ 0 then v2 else (v2 / (kI h (rf h v0 3) (Int32.toNatClampNeg v4)))) → (∀ z2 : Int32, z2 = (if (kI h (rf h v0 3) (Int32.toNatClampNeg v4)) ≤ 0 then v3 else (v3 ||| ((v2 - v2 / (kI h (rf h v0 3) (Int32.toNatClampNeg v4)) * (kI h (rf h v0 3) (Int32.toNatClampNeg v4))) <<< ((2 * v4) &&& 31)))) → X G M Q 7 [(0, .ref v0), (2, .int z1), (3, .int z2), (4, .int (v4 + 1))] [] h)))))))) : X G M Q 7 [(0, .ref v0), (2, .int v2), (3, .int v3), (4, .int v4)] [] h := by
  refine x_iload hM d_Wo_pack_7 3 rfl ?_
  refine x_aload_n hM d_Wo_pack_9 rfl 0 rfl ?_
  obtain ⟨c11, F⟩ := F
  refine x_geti hG hM ck_Wo 0 (Nat.le_of_ble_eq_true rfl) rfl rfl w_123 rfl d_Wo_pack_10 c11 ?_
  refine x_icmp_ge (tgt := 53) hM d_Wo_pack_13 (by decide) (fun q10 => ?_) (fun q10 => ?_)
  · replace F := F.1 q10
    refine x_iload_n hM d_Wo_pack_53 rfl 2 rfl ?_
    exact x_ireturn hM d_Wo_pack_54 rfl F
  · replace F := F.2 q10
    refine x_aload_n hM d_Wo_pack_16 rfl 0 rfl ?_
    obtain ⟨c8, F⟩ := F
    obtain ⟨c9, F⟩ := F
    refine x_getr hG hM ck_Wo 3 (Nat.le_of_ble_eq_true rfl) rfl rfl w_140 rfl d_Wo_pack_17 c8 c9 ?_
    refine x_iload hM d_Wo_pack_20 3 rfl ?_
    obtain ⟨c6, F⟩ := F
    obtain ⟨c7, F⟩ := F
    refine x_iaload hG hM d_Wo_pack_22 c6 c7 ?_
    refine x_istore (lv2 := [(5, .int (kI h (rf h v0 3) (Int32.toNatClampNeg v4))), (0, .ref v0), (2, .int v2), (3, .int v3), (4, .int v4)]) hM d_Wo_pack_23 (Nat.le_of_ble_eq_true rfl) rfl ?_
    refine x_iload hM d_Wo_pack_25 0 rfl ?_
    obtain ⟨S, F⟩ := F
    have JJ : ∀ (z1 : Int32) (ez1 : z1 = (if (kI h (rf h v0 3) (Int32.toNatClampNeg v4)) ≤ 0 then v2 else (v2 / (kI h (rf h v0 3) (Int32.toNatClampNeg v4))))) (z2 : Int32) (ez2 : z2 = (if (kI h (rf h v0 3) (Int32.toNatClampNeg v4)) ≤ 0 then v3 else (v3 ||| ((v2 - v2 / (kI h (rf h v0 3) (Int32.toNatClampNeg v4)) * (kI h (rf h v0 3) (Int32.toNatClampNeg v4))) <<< ((2 * v4) &&& 31))))), X G M Q 47 [(0, .ref v0), (2, .int z1), (3, .int z2), (4, .int v4)] [] h := by
      intro z1 ez1 z2 ez2
      replace F := F _ ez1 _ ez2
      refine x_iinc (v := (v4 + 1)) (lv2 := [(4, .int (v4 + 1)), (0, .ref v0), (2, .int z1), (3, .int z2)]) hM d_Wo_pack_47 (j := 3) rfl rfl (Nat.le_of_ble_eq_true rfl) rfl ?_
      refine x_goto (tgt := 7) hM d_Wo_pack_50 (by decide) ?_
      refine x_sub [1, 2, 3, 0] rfl ?_
      exact F
    refine x_if_le (tgt := 47) hM d_Wo_pack_27 (by decide) (fun q3 => ?_) (fun q3 => ?_)
    · refine x_sub [1, 2, 3, 4] rfl ?_
      exact JJ _ (Eq.symm (if_pos q3)) _ (Eq.symm (if_pos q3))
    · replace S := S q3
      refine x_iload_n hM d_Wo_pack_30 rfl 3 rfl ?_
      refine x_iload_n hM d_Wo_pack_31 rfl 2 rfl ?_
      refine x_iload hM d_Wo_pack_32 0 rfl ?_
      obtain ⟨c4, S⟩ := S
      refine x_irem hM d_Wo_pack_34 c4 ?_
      refine x_iconst (v := 2) hM d_Wo_pack_35 (by decide) ?_
      refine x_iload hM d_Wo_pack_36 4 rfl ?_
      refine x_imul hM d_Wo_pack_38 ?_
      refine x_ishl hM d_Wo_pack_39 ?_
      refine x_ior hM d_Wo_pack_40 ?_
      refine x_istore_n (lv2 := [(3, .int (v3 ||| ((v2 - v2 / (kI h (rf h v0 3) (Int32.toNatClampNeg v4)) * (kI h (rf h v0 3) (Int32.toNatClampNeg v4))) <<< ((2 * v4) &&& 31)))), (5, .int (kI h (rf h v0 3) (Int32.toNatClampNeg v4))), (0, .ref v0), (2, .int v2), (4, .int v4)]) hM d_Wo_pack_41 rfl (Nat.le_of_ble_eq_true rfl) rfl ?_
      refine x_iload_n hM d_Wo_pack_42 rfl 3 rfl ?_
      refine x_iload hM d_Wo_pack_43 1 rfl ?_
      have c5 := S
      refine x_idiv hM d_Wo_pack_45 c5 ?_
      refine x_istore_n (lv2 := [(2, .int (v2 / (kI h (rf h v0 3) (Int32.toNatClampNeg v4)))), (3, .int (v3 ||| ((v2 - v2 / (kI h (rf h v0 3) (Int32.toNatClampNeg v4)) * (kI h (rf h v0 3) (Int32.toNatClampNeg v4))) <<< ((2 * v4) &&& 31)))), (5, .int (kI h (rf h v0 3) (Int32.toNatClampNeg v4))), (0, .ref v0), (4, .int v4)]) hM d_Wo_pack_46 rfl (Nat.le_of_ble_eq_true rfl) rfl ?_
      refine x_sub [3, 0, 1, 4] rfl ?_
      exact JJ _ (Eq.symm (if_neg q3)) _ (Eq.symm (if_neg q3))
theorem d_Wo_after_0 : decode b_Wo_after 0 = .ok (.iload_n 2, 1) := by decide +kernel
theorem d_Wo_after_1 : decode b_Wo_after 1 = .ok (.istore 4, 2) := by decide +kernel
theorem d_Wo_after_3 : decode b_Wo_after 3 = .ok (.iconst 0, 1) := by decide +kernel
theorem d_Wo_after_4 : decode b_Wo_after 4 = .ok (.istore 5, 2) := by decide +kernel
theorem d_Wo_after_6 : decode b_Wo_after 6 = .ok (.iload 5, 2) := by decide +kernel
theorem d_Wo_after_8 : decode b_Wo_after 8 = .ok (.aload_n 1, 1) := by decide +kernel
theorem d_Wo_after_9 : decode b_Wo_after 9 = .ok (.getfield 61, 3) := by decide +kernel
theorem d_Wo_after_12 : decode b_Wo_after 12 = .ok (.if_icmp .ge 55, 3) := by decide +kernel
theorem d_Wo_after_15 : decode b_Wo_after 15 = .ok (.aload_n 1, 1) := by decide +kernel
theorem d_Wo_after_16 : decode b_Wo_after 16 = .ok (.iload 5, 2) := by decide +kernel
theorem d_Wo_after_18 : decode b_Wo_after 18 = .ok (.invokevirtual 66, 3) := by decide +kernel
theorem d_Wo_after_21 : decode b_Wo_after 21 = .ok (.ifCond .eq 40, 3) := by decide +kernel
theorem d_Wo_after_24 : decode b_Wo_after 24 = .ok (.aload_n 1, 1) := by decide +kernel
theorem d_Wo_after_25 : decode b_Wo_after 25 = .ok (.getfield 69, 3) := by decide +kernel
theorem d_Wo_after_28 : decode b_Wo_after 28 = .ok (.iload 5, 2) := by decide +kernel
theorem d_Wo_after_30 : decode b_Wo_after 30 = .ok (.iaload, 1) := by decide +kernel
theorem d_Wo_after_31 : decode b_Wo_after 31 = .ok (.istore 6, 2) := by decide +kernel
theorem d_Wo_after_33 : decode b_Wo_after 33 = .ok (.iload 4, 2) := by decide +kernel
theorem d_Wo_after_35 : decode b_Wo_after 35 = .ok (.aload_n 0, 1) := by decide +kernel
theorem d_Wo_after_36 : decode b_Wo_after 36 = .ok (.getfield 25, 3) := by decide +kernel
theorem d_Wo_after_39 : decode b_Wo_after 39 = .ok (.iload 6, 2) := by decide +kernel
theorem d_Wo_after_41 : decode b_Wo_after 41 = .ok (.iaload, 1) := by decide +kernel
theorem d_Wo_after_42 : decode b_Wo_after 42 = .ok (.aload_n 0, 1) := by decide +kernel
theorem d_Wo_after_43 : decode b_Wo_after 43 = .ok (.aload_n 1, 1) := by decide +kernel
theorem d_Wo_after_44 : decode b_Wo_after 44 = .ok (.iload 5, 2) := by decide +kernel
theorem d_Wo_after_46 : decode b_Wo_after 46 = .ok (.iload_n 3, 1) := by decide +kernel
theorem d_Wo_after_47 : decode b_Wo_after 47 = .ok (.invokevirtual 72, 3) := by decide +kernel
theorem d_Wo_after_50 : decode b_Wo_after 50 = .ok (.iload_n 3, 1) := by decide +kernel
theorem d_Wo_after_51 : decode b_Wo_after 51 = .ok (.iload 6, 2) := by decide +kernel
theorem d_Wo_after_53 : decode b_Wo_after 53 = .ok (.invokestatic 76, 3) := by decide +kernel
theorem d_Wo_after_56 : decode b_Wo_after 56 = .ok (.isub, 1) := by decide +kernel
theorem d_Wo_after_57 : decode b_Wo_after 57 = .ok (.imul, 1) := by decide +kernel
theorem d_Wo_after_58 : decode b_Wo_after 58 = .ok (.iadd, 1) := by decide +kernel
theorem d_Wo_after_59 : decode b_Wo_after 59 = .ok (.istore 4, 2) := by decide +kernel
theorem d_Wo_after_61 : decode b_Wo_after 61 = .ok (.iinc 5 1, 3) := by decide +kernel
theorem d_Wo_after_64 : decode b_Wo_after 64 = .ok (.goto (-58), 3) := by decide +kernel
theorem d_Wo_after_67 : decode b_Wo_after 67 = .ok (.iload 4, 2) := by decide +kernel
theorem d_Wo_after_69 : decode b_Wo_after 69 = .ok (.ireturn, 1) := by decide +kernel
set_option maxRecDepth 100000 in
set_option maxHeartbeats 4000000 in
theorem S_Wo_after_0 {G : Gc} {M : Mc} {Q : State → Prop} {K : Option Value → Hp → Prop} (hG : gok G) (hM : mok G M r_Wo_after Q K) (v0 : Nat) (v1 : Nat) (v2 : Int32) (v3 : Int32) (h : Hp) (F : X G M Q 6 [(0, .ref v0), (1, .ref v1), (3, .int v3), (4, .int v2), (5, .int 0)] [] h) : X G M Q 0 [(0, .ref v0), (1, .ref v1), (2, .int v2), (3, .int v3)] [] h := by
  refine x_iload_n hM d_Wo_after_0 rfl 2 rfl ?_
  refine x_istore (lv2 := [(4, .int v2), (0, .ref v0), (1, .ref v1), (2, .int v2), (3, .int v3)]) hM d_Wo_after_1 (Nat.le_of_ble_eq_true rfl) rfl ?_
  refine x_iconst (v := 0) hM d_Wo_after_3 (by decide) ?_
  refine x_istore (lv2 := [(5, .int 0), (4, .int v2), (0, .ref v0), (1, .ref v1), (2, .int v2), (3, .int v3)]) hM d_Wo_after_4 (Nat.le_of_ble_eq_true rfl) rfl ?_
  refine x_sub [2, 3, 5, 1, 0] rfl ?_
  exact F
set_option maxRecDepth 100000 in
set_option maxHeartbeats 4000000 in
theorem S_Wo_after_6 {G : Gc} {M : Mc} {Q : State → Prop} {K : Option Value → Hp → Prop} (hG : gok G) (hM : mok G M r_Wo_after Q K) (v0 : Nat) (v1 : Nat) (v3 : Int32) (v4 : Int32) (v5 : Int32) (h : Hp) (F : kT h v1 = 5 ∧ (((kI h v1 0) ≤ v5 → K (some (.int v4)) h) ∧ (¬ (kI h v1 0) ≤ v5 → (kT h v1 = 5 ∧ sem G r_Cl_isLastOfItsThing [.ref v1, .int v5] h (fun u2 h1 => ∃ x3 : Int32, u2 = some (.int x3) ∧ ((x3 = 0 → X G M Q 6 [(0, .ref v0), (1, .ref v1), (3, .int v3), (4, .int v4), (5, .int (v5 + 1))] [] h1) ∧ (¬ x3 = 0 → (kT h1 v1 = 5 ∧ kR h1 v1 1 = some (rf h1 v1 1) ∧ (kT h1 (rf h1 v1 1) = 50 ∧ vp_in v5 (kN h1 (rf h1 v1 1)) ∧ (kT h1 v0 = 2 ∧ kR h1 v0 4 = some (rf h1 v0 4) ∧ (kT h1 (rf h1 v0 4) = 50 ∧ vp_in (kI h1 (rf h1 v1 1) (Int32.toNatClampNeg v5)) (kN h1 (rf h1 v0 4)) ∧ (kT h1 v0 = 2 ∧ sem G r_Wo_newValue [.ref v0, .ref v1, .int v5, .int v3] h1 (fun u5 h4 => ∃ x6 : Int32, u5 = some (.int x6) ∧ (sem G r_WP_valueIn [.int v3, .int (kI h1 (rf h1 v1 1) (Int32.toNatClampNeg v5))] h4 (fun u8 h7 => ∃ x9 : Int32, u8 = some (.int x9) ∧ X G M Q 6 [(0, .ref v0), (1, .ref v1), (3, .int v3), (4, .int (v4 + ((kI h1 (rf h1 v0 4) (Int32.toNatClampNeg (kI h1 (rf h1 v1 1) (Int32.toNatClampNeg v5)))) * (x6 - x9)))), (5, .int (v5 + 1))] [] h7))))))))))))))) : X G M Q 6 [(0, .ref v0), (1, .ref v1), (3, .int v3), (4, .int v4), (5, .int v5)] [] h := by
  refine x_iload hM d_Wo_after_6 4 rfl ?_
  refine x_aload_n hM d_Wo_after_8 rfl 1 rfl ?_
  obtain ⟨c22, F⟩ := F
  refine x_geti hG hM ck_Cl 0 (Nat.le_of_ble_eq_true rfl) rfl rfl w_47 rfl d_Wo_after_9 c22 ?_
  refine x_icmp_ge (tgt := 67) hM d_Wo_after_12 (by decide) (fun q21 => ?_) (fun q21 => ?_)
  · replace F := F.1 q21
    refine x_iload hM d_Wo_after_67 3 rfl ?_
    exact x_ireturn hM d_Wo_after_69 rfl F
  · replace F := F.2 q21
    refine x_aload_n hM d_Wo_after_15 rfl 1 rfl ?_
    refine x_iload hM d_Wo_after_16 4 rfl ?_
    obtain ⟨c20, F⟩ := F
    refine x_callV hG hM (r' := r_Cl_isLastOfItsThing) (ci := 4) [.int v5] rfl rfl (Nat.le_of_ble_eq_true rfl) yk_Cl_isLastOfItsThing ⟨Nat.le_of_ble_eq_true rfl, Nat.le_of_ble_eq_true rfl⟩ w_564 w_565 w_566 rfl rfl (Nat.le_of_ble_eq_true rfl) d_Wo_after_18 c20 (sem_mono F ?_)
    intro u2 h1 F
    obtain ⟨x3, rfl, F⟩ := F
    refine x_if_eq (tgt := 61) hM d_Wo_after_21 (by decide) (fun q19 => ?_) (fun q19 => ?_)
    · replace F := F.1 q19
      refine x_iinc (v := (v5 + 1)) (lv2 := [(5, .int (v5 + 1)), (0, .ref v0), (1, .ref v1), (3, .int v3), (4, .int v4)]) hM d_Wo_after_61 (j := 4) rfl rfl (Nat.le_of_ble_eq_true rfl) rfl ?_
      refine x_goto (tgt := 6) hM d_Wo_after_64 (by decide) ?_
      refine x_sub [1, 2, 3, 4, 0] rfl ?_
      exact F
    · replace F := F.2 q19
      refine x_aload_n hM d_Wo_after_24 rfl 1 rfl ?_
      obtain ⟨c17, F⟩ := F
      obtain ⟨c18, F⟩ := F
      refine x_getr hG hM ck_Cl 1 (Nat.le_of_ble_eq_true rfl) rfl rfl w_49 rfl d_Wo_after_25 c17 c18 ?_
      refine x_iload hM d_Wo_after_28 4 rfl ?_
      obtain ⟨c15, F⟩ := F
      obtain ⟨c16, F⟩ := F
      refine x_iaload hG hM d_Wo_after_30 c15 c16 ?_
      refine x_istore (lv2 := [(6, .int (kI h1 (rf h1 v1 1) (Int32.toNatClampNeg v5))), (0, .ref v0), (1, .ref v1), (3, .int v3), (4, .int v4), (5, .int v5)]) hM d_Wo_after_31 (Nat.le_of_ble_eq_true rfl) rfl ?_
      refine x_iload hM d_Wo_after_33 4 rfl ?_
      refine x_aload_n hM d_Wo_after_35 rfl 1 rfl ?_
      obtain ⟨c13, F⟩ := F
      obtain ⟨c14, F⟩ := F
      refine x_getr hG hM ck_Wo 4 (Nat.le_of_ble_eq_true rfl) rfl rfl w_142 rfl d_Wo_after_36 c13 c14 ?_
      refine x_iload hM d_Wo_after_39 0 rfl ?_
      obtain ⟨c11, F⟩ := F
      obtain ⟨c12, F⟩ := F
      refine x_iaload hG hM d_Wo_after_41 c11 c12 ?_
      refine x_aload_n hM d_Wo_after_42 rfl 1 rfl ?_
      refine x_aload_n hM d_Wo_after_43 rfl 2 rfl ?_
      refine x_iload hM d_Wo_after_44 5 rfl ?_
      refine x_iload_n hM d_Wo_after_46 rfl 3 rfl ?_
      obtain ⟨c10, F⟩ := F
      refine x_callV hG hM (r' := r_Wo_newValue) (ci := 1) [.ref v1, .int v5, .int v3] rfl rfl (Nat.le_of_ble_eq_true rfl) yk_Wo_newValue ⟨Nat.le_of_ble_eq_true rfl, Nat.le_of_ble_eq_true rfl⟩ w_568 w_570 ws_Wo_newValue rfl rfl (Nat.le_of_ble_eq_true rfl) d_Wo_after_47 c10 (sem_mono F ?_)
      intro u5 h4 F
      obtain ⟨x6, rfl, F⟩ := F
      refine x_iload_n hM d_Wo_after_50 rfl 3 rfl ?_
      refine x_iload hM d_Wo_after_51 0 rfl ?_
      refine x_callSN hG hM (r' := r_WP_valueIn) [.int v3, .int (kI h1 (rf h1 v1 1) (Int32.toNatClampNeg v5))] rfl yk_WP_valueIn ⟨Nat.le_of_ble_eq_true rfl, Nat.le_of_ble_eq_true rfl⟩ w_572 w_558 rfl rfl (Nat.le_of_ble_eq_true rfl) d_Wo_after_53 (sem_mono F ?_)
      intro u8 h7 F
      obtain ⟨x9, rfl, F⟩ := F
      refine x_isub hM d_Wo_after_56 ?_
      refine x_imul hM d_Wo_after_57 ?_
      refine x_iadd hM d_Wo_after_58 ?_
      refine x_istore (lv2 := [(4, .int (v4 + ((kI h1 (rf h1 v0 4) (Int32.toNatClampNeg (kI h1 (rf h1 v1 1) (Int32.toNatClampNeg v5)))) * (x6 - x9)))), (6, .int (kI h1 (rf h1 v1 1) (Int32.toNatClampNeg v5))), (0, .ref v0), (1, .ref v1), (3, .int v3), (5, .int v5)]) hM d_Wo_after_59 (Nat.le_of_ble_eq_true rfl) rfl ?_
      refine x_iinc (v := (v5 + 1)) (lv2 := [(5, .int (v5 + 1)), (4, .int (v4 + ((kI h1 (rf h1 v0 4) (Int32.toNatClampNeg (kI h1 (rf h1 v1 1) (Int32.toNatClampNeg v5)))) * (x6 - x9)))), (6, .int (kI h1 (rf h1 v1 1) (Int32.toNatClampNeg v5))), (0, .ref v0), (1, .ref v1), (3, .int v3)]) hM d_Wo_after_61 (j := 5) rfl rfl (Nat.le_of_ble_eq_true rfl) rfl ?_
      refine x_goto (tgt := 6) hM d_Wo_after_64 (by decide) ?_
      refine x_sub [3, 4, 5, 1, 0] rfl ?_
      exact F
theorem d_Wo_newValue_0 : decode b_Wo_newValue 0 = .ok (.aload_n 1, 1) := by decide +kernel
theorem d_Wo_newValue_1 : decode b_Wo_newValue 1 = .ok (.getfield 69, 3) := by decide +kernel
theorem d_Wo_newValue_4 : decode b_Wo_newValue 4 = .ok (.iload_n 2, 1) := by decide +kernel
theorem d_Wo_newValue_5 : decode b_Wo_newValue 5 = .ok (.iaload, 1) := by decide +kernel
theorem d_Wo_newValue_6 : decode b_Wo_newValue 6 = .ok (.istore 4, 2) := by decide +kernel
theorem d_Wo_newValue_8 : decode b_Wo_newValue 8 = .ok (.aload_n 1, 1) := by decide +kernel
theorem d_Wo_newValue_9 : decode b_Wo_newValue 9 = .ok (.getfield 80, 3) := by decide +kernel
theorem d_Wo_newValue_12 : decode b_Wo_newValue 12 = .ok (.iload_n 2, 1) := by decide +kernel
theorem d_Wo_newValue_13 : decode b_Wo_newValue 13 = .ok (.iaload, 1) := by decide +kernel
theorem d_Wo_newValue_14 : decode b_Wo_newValue 14 = .ok (.istore 5, 2) := by decide +kernel
theorem d_Wo_newValue_16 : decode b_Wo_newValue 16 = .ok (.iload 5, 2) := by decide +kernel
theorem d_Wo_newValue_18 : decode b_Wo_newValue 18 = .ok (.istore 6, 2) := by decide +kernel
theorem d_Wo_newValue_20 : decode b_Wo_newValue 20 = .ok (.aload_n 1, 1) := by decide +kernel
theorem d_Wo_newValue_21 : decode b_Wo_newValue 21 = .ok (.getfield 83, 3) := by decide +kernel
theorem d_Wo_newValue_24 : decode b_Wo_newValue 24 = .ok (.iload_n 2, 1) := by decide +kernel
theorem d_Wo_newValue_25 : decode b_Wo_newValue 25 = .ok (.iaload, 1) := by decide +kernel
theorem d_Wo_newValue_26 : decode b_Wo_newValue 26 = .ok (.iconst 1, 1) := by decide +kernel
theorem d_Wo_newValue_27 : decode b_Wo_newValue 27 = .ok (.if_icmp .ne 14, 3) := by decide +kernel
theorem d_Wo_newValue_30 : decode b_Wo_newValue 30 = .ok (.iload_n 3, 1) := by decide +kernel
theorem d_Wo_newValue_31 : decode b_Wo_newValue 31 = .ok (.iload 5, 2) := by decide +kernel
theorem d_Wo_newValue_33 : decode b_Wo_newValue 33 = .ok (.invokestatic 76, 3) := by decide +kernel
theorem d_Wo_newValue_36 : decode b_Wo_newValue 36 = .ok (.istore 6, 2) := by decide +kernel
theorem d_Wo_newValue_38 : decode b_Wo_newValue 38 = .ok (.goto 24, 3) := by decide +kernel
theorem d_Wo_newValue_41 : decode b_Wo_newValue 41 = .ok (.aload_n 1, 1) := by decide +kernel
theorem d_Wo_newValue_42 : decode b_Wo_newValue 42 = .ok (.getfield 83, 3) := by decide +kernel
theorem d_Wo_newValue_45 : decode b_Wo_newValue 45 = .ok (.iload_n 2, 1) := by decide +kernel
theorem d_Wo_newValue_46 : decode b_Wo_newValue 46 = .ok (.iaload, 1) := by decide +kernel
theorem d_Wo_newValue_47 : decode b_Wo_newValue 47 = .ok (.iconst 2, 1) := by decide +kernel
theorem d_Wo_newValue_48 : decode b_Wo_newValue 48 = .ok (.if_icmp .ne 14, 3) := by decide +kernel
theorem d_Wo_newValue_51 : decode b_Wo_newValue 51 = .ok (.iload_n 3, 1) := by decide +kernel
theorem d_Wo_newValue_52 : decode b_Wo_newValue 52 = .ok (.iload 4, 2) := by decide +kernel
theorem d_Wo_newValue_54 : decode b_Wo_newValue 54 = .ok (.invokestatic 76, 3) := by decide +kernel
theorem d_Wo_newValue_57 : decode b_Wo_newValue 57 = .ok (.iload 5, 2) := by decide +kernel
theorem d_Wo_newValue_59 : decode b_Wo_newValue 59 = .ok (.iadd, 1) := by decide +kernel
theorem d_Wo_newValue_60 : decode b_Wo_newValue 60 = .ok (.istore 6, 2) := by decide +kernel
theorem d_Wo_newValue_62 : decode b_Wo_newValue 62 = .ok (.aload_n 0, 1) := by decide +kernel
theorem d_Wo_newValue_63 : decode b_Wo_newValue 63 = .ok (.getfield 21, 3) := by decide +kernel
theorem d_Wo_newValue_66 : decode b_Wo_newValue 66 = .ok (.iload 4, 2) := by decide +kernel
theorem d_Wo_newValue_68 : decode b_Wo_newValue 68 = .ok (.iaload, 1) := by decide +kernel
theorem d_Wo_newValue_69 : decode b_Wo_newValue 69 = .ok (.istore 7, 2) := by decide +kernel
theorem d_Wo_newValue_71 : decode b_Wo_newValue 71 = .ok (.iload 7, 2) := by decide +kernel
theorem d_Wo_newValue_73 : decode b_Wo_newValue 73 = .ok (.ifCond .le 11, 3) := by decide +kernel
theorem d_Wo_newValue_76 : decode b_Wo_newValue 76 = .ok (.iload 6, 2) := by decide +kernel
theorem d_Wo_newValue_78 : decode b_Wo_newValue 78 = .ok (.iload 7, 2) := by decide +kernel
theorem d_Wo_newValue_80 : decode b_Wo_newValue 80 = .ok (.irem, 1) := by decide +kernel
theorem d_Wo_newValue_81 : decode b_Wo_newValue 81 = .ok (.goto 4, 3) := by decide +kernel
theorem d_Wo_newValue_84 : decode b_Wo_newValue 84 = .ok (.iconst 0, 1) := by decide +kernel
theorem d_Wo_newValue_85 : decode b_Wo_newValue 85 = .ok (.ireturn, 1) := by decide +kernel
set_option maxRecDepth 100000 in
set_option maxHeartbeats 4000000 in
theorem S_Wo_newValue_0 {G : Gc} {M : Mc} {Q : State → Prop} {K : Option Value → Hp → Prop} (hG : gok G) (hM : mok G M r_Wo_newValue Q K) (v0 : Nat) (v1 : Nat) (v2 : Int32) (v3 : Int32) (h : Hp) (F : kT h v1 = 5 ∧ kR h v1 1 = some (rf h v1 1) ∧ (kT h (rf h v1 1) = 50 ∧ vp_in v2 (kN h (rf h v1 1)) ∧ (kT h v1 = 5 ∧ kR h v1 3 = some (rf h v1 3) ∧ (kT h (rf h v1 3) = 50 ∧ vp_in v2 (kN h (rf h v1 3)) ∧ (kT h v1 = 5 ∧ kR h v1 2 = some (rf h v1 2) ∧ (kT h (rf h v1 2) = 50 ∧ vp_in v2 (kN h (rf h v1 2)) ∧ (((kI h (rf h v1 2) (Int32.toNatClampNeg v2)) = 1 → (sem G r_WP_valueIn [.int v3, .int (kI h (rf h v1 3) (Int32.toNatClampNeg v2))] h (fun u10 h9 => ∃ x11 : Int32, u10 = some (.int x11) ∧ X G M Q 62 [(0, .ref v0), (4, .int (kI h (rf h v1 1) (Int32.toNatClampNeg v2))), (6, .int x11)] [] h9))) ∧ (¬ (kI h (rf h v1 2) (Int32.toNatClampNeg v2)) = 1 → (kT h v1 = 5 ∧ kR h v1 2 = some (rf h v1 2) ∧ (kT h (rf h v1 2) = 50 ∧ vp_in v2 (kN h (rf h v1 2)) ∧ (((kI h (rf h v1 2) (Int32.toNatClampNeg v2)) = 2 → (sem G r_WP_valueIn [.int v3, .int (kI h (rf h v1 1) (Int32.toNatClampNeg v2))] h (fun u2 h1 => ∃ x3 : Int32, u2 = some (.int x3) ∧ X G M Q 62 [(0, .ref v0), (4, .int (kI h (rf h v1 1) (Int32.toNatClampNeg v2))), (6, .int (x3 + (kI h (rf h v1 3) (Int32.toNatClampNeg v2))))] [] h1))) ∧ (¬ (kI h (rf h v1 2) (Int32.toNatClampNeg v2)) = 2 → X G M Q 62 [(0, .ref v0), (4, .int (kI h (rf h v1 1) (Int32.toNatClampNeg v2))), (6, .int (kI h (rf h v1 3) (Int32.toNatClampNeg v2)))] [] h)))))))))))) : X G M Q 0 [(0, .ref v0), (1, .ref v1), (2, .int v2), (3, .int v3)] [] h := by
  refine x_aload_n hM d_Wo_newValue_0 rfl 1 rfl ?_
  obtain ⟨c23, F⟩ := F
  obtain ⟨c24, F⟩ := F
  refine x_getr hG hM ck_Cl 1 (Nat.le_of_ble_eq_true rfl) rfl rfl w_49 rfl d_Wo_newValue_1 c23 c24 ?_
  refine x_iload_n hM d_Wo_newValue_4 rfl 2 rfl ?_
  obtain ⟨c21, F⟩ := F
  obtain ⟨c22, F⟩ := F
  refine x_iaload hG hM d_Wo_newValue_5 c21 c22 ?_
  refine x_istore (lv2 := [(4, .int (kI h (rf h v1 1) (Int32.toNatClampNeg v2))), (0, .ref v0), (1, .ref v1), (2, .int v2), (3, .int v3)]) hM d_Wo_newValue_6 (Nat.le_of_ble_eq_true rfl) rfl ?_
  refine x_aload_n hM d_Wo_newValue_8 rfl 2 rfl ?_
  obtain ⟨c19, F⟩ := F
  obtain ⟨c20, F⟩ := F
  refine x_getr hG hM ck_Cl 3 (Nat.le_of_ble_eq_true rfl) rfl rfl w_53 rfl d_Wo_newValue_9 c19 c20 ?_
  refine x_iload_n hM d_Wo_newValue_12 rfl 3 rfl ?_
  obtain ⟨c17, F⟩ := F
  obtain ⟨c18, F⟩ := F
  refine x_iaload hG hM d_Wo_newValue_13 c17 c18 ?_
  refine x_istore (lv2 := [(5, .int (kI h (rf h v1 3) (Int32.toNatClampNeg v2))), (4, .int (kI h (rf h v1 1) (Int32.toNatClampNeg v2))), (0, .ref v0), (1, .ref v1), (2, .int v2), (3, .int v3)]) hM d_Wo_newValue_14 (Nat.le_of_ble_eq_true rfl) rfl ?_
  refine x_iload hM d_Wo_newValue_16 0 rfl ?_
  refine x_istore (lv2 := [(6, .int (kI h (rf h v1 3) (Int32.toNatClampNeg v2))), (5, .int (kI h (rf h v1 3) (Int32.toNatClampNeg v2))), (4, .int (kI h (rf h v1 1) (Int32.toNatClampNeg v2))), (0, .ref v0), (1, .ref v1), (2, .int v2), (3, .int v3)]) hM d_Wo_newValue_18 (Nat.le_of_ble_eq_true rfl) rfl ?_
  refine x_aload_n hM d_Wo_newValue_20 rfl 4 rfl ?_
  obtain ⟨c15, F⟩ := F
  obtain ⟨c16, F⟩ := F
  refine x_getr hG hM ck_Cl 2 (Nat.le_of_ble_eq_true rfl) rfl rfl w_51 rfl d_Wo_newValue_21 c15 c16 ?_
  refine x_iload_n hM d_Wo_newValue_24 rfl 5 rfl ?_
  obtain ⟨c13, F⟩ := F
  obtain ⟨c14, F⟩ := F
  refine x_iaload hG hM d_Wo_newValue_25 c13 c14 ?_
  refine x_iconst (v := 1) hM d_Wo_newValue_26 (by decide) ?_
  refine x_icmp_ne (tgt := 41) hM d_Wo_newValue_27 (by decide) (fun q12 => ?_) (fun q12 => ?_)
  · replace F := F.2 q12
    refine x_aload_n hM d_Wo_newValue_41 rfl 4 rfl ?_
    obtain ⟨c7, F⟩ := F
    obtain ⟨c8, F⟩ := F
    refine x_getr hG hM ck_Cl 2 (Nat.le_of_ble_eq_true rfl) rfl rfl w_51 rfl d_Wo_newValue_42 c7 c8 ?_
    refine x_iload_n hM d_Wo_newValue_45 rfl 5 rfl ?_
    obtain ⟨c5, F⟩ := F
    obtain ⟨c6, F⟩ := F
    refine x_iaload hG hM d_Wo_newValue_46 c5 c6 ?_
    refine x_iconst (v := 2) hM d_Wo_newValue_47 (by decide) ?_
    refine x_icmp_ne (tgt := 62) hM d_Wo_newValue_48 (by decide) (fun q4 => ?_) (fun q4 => ?_)
    · replace F := F.2 q4
      refine x_sub [3, 2, 0] rfl ?_
      exact F
    · replace F := F.1 q4
      refine x_iload_n hM d_Wo_newValue_51 rfl 6 rfl ?_
      refine x_iload hM d_Wo_newValue_52 2 rfl ?_
      refine x_callSN hG hM (r' := r_WP_valueIn) [.int v3, .int (kI h (rf h v1 1) (Int32.toNatClampNeg v2))] rfl yk_WP_valueIn ⟨Nat.le_of_ble_eq_true rfl, Nat.le_of_ble_eq_true rfl⟩ w_572 w_558 rfl rfl (Nat.le_of_ble_eq_true rfl) d_Wo_newValue_54 (sem_mono F ?_)
      intro u2 h1 F
      obtain ⟨x3, rfl, F⟩ := F
      refine x_iload hM d_Wo_newValue_57 1 rfl ?_
      refine x_iadd hM d_Wo_newValue_59 ?_
      refine x_istore (lv2 := [(6, .int (x3 + (kI h (rf h v1 3) (Int32.toNatClampNeg v2)))), (5, .int (kI h (rf h v1 3) (Int32.toNatClampNeg v2))), (4, .int (kI h (rf h v1 1) (Int32.toNatClampNeg v2))), (0, .ref v0), (1, .ref v1), (2, .int v2), (3, .int v3)]) hM d_Wo_newValue_60 (Nat.le_of_ble_eq_true rfl) rfl ?_
      refine x_sub [3, 2, 0] rfl ?_
      exact F
  · replace F := F.1 q12
    refine x_iload_n hM d_Wo_newValue_30 rfl 6 rfl ?_
    refine x_iload hM d_Wo_newValue_31 1 rfl ?_
    refine x_callSN hG hM (r' := r_WP_valueIn) [.int v3, .int (kI h (rf h v1 3) (Int32.toNatClampNeg v2))] rfl yk_WP_valueIn ⟨Nat.le_of_ble_eq_true rfl, Nat.le_of_ble_eq_true rfl⟩ w_572 w_558 rfl rfl (Nat.le_of_ble_eq_true rfl) d_Wo_newValue_33 (sem_mono F ?_)
    intro u10 h9 F
    obtain ⟨x11, rfl, F⟩ := F
    refine x_istore (lv2 := [(6, .int x11), (5, .int (kI h (rf h v1 3) (Int32.toNatClampNeg v2))), (4, .int (kI h (rf h v1 1) (Int32.toNatClampNeg v2))), (0, .ref v0), (1, .ref v1), (2, .int v2), (3, .int v3)]) hM d_Wo_newValue_36 (Nat.le_of_ble_eq_true rfl) rfl ?_
    refine x_goto (tgt := 62) hM d_Wo_newValue_38 (by decide) ?_
    refine x_sub [3, 2, 0] rfl ?_
    exact F
set_option maxRecDepth 100000 in
set_option maxHeartbeats 4000000 in
theorem S_Wo_newValue_62 {G : Gc} {M : Mc} {Q : State → Prop} {K : Option Value → Hp → Prop} (hG : gok G) (hM : mok G M r_Wo_newValue Q K) (v0 : Nat) (v4 : Int32) (v6 : Int32) (h : Hp) (F : kT h v0 = 2 ∧ kR h v0 3 = some (rf h v0 3) ∧ (kT h (rf h v0 3) = 50 ∧ vp_in v4 (kN h (rf h v0 3)) ∧ ((¬ (kI h (rf h v0 3) (Int32.toNatClampNeg v4)) ≤ 0 → ¬ (kI h (rf h v0 3) (Int32.toNatClampNeg v4)) = 0) ∧ (∀ z1 : Int32, z1 = (if (kI h (rf h v0 3) (Int32.toNatClampNeg v4)) ≤ 0 then 0 else (v6 - v6 / (kI h (rf h v0 3) (Int32.toNatClampNeg v4)) * (kI h (rf h v0 3) (Int32.toNatClampNeg v4)))) → K (some (.int z1)) h)))) : X G M Q 62 [(0, .ref v0), (4, .int v4), (6, .int v6)] [] h := by
  refine x_aload_n hM d_Wo_newValue_62 rfl 0 rfl ?_
  obtain ⟨c6, F⟩ := F
  obtain ⟨c7, F⟩ := F
  refine x_getr hG hM ck_Wo 3 (Nat.le_of_ble_eq_true rfl) rfl rfl w_140 rfl d_Wo_newValue_63 c6 c7 ?_
  refine x_iload hM d_Wo_newValue_66 1 rfl ?_
  obtain ⟨c4, F⟩ := F
  obtain ⟨c5, F⟩ := F
  refine x_iaload hG hM d_Wo_newValue_68 c4 c5 ?_
  refine x_istore (lv2 := [(7, .int (kI h (rf h v0 3) (Int32.toNatClampNeg v4))), (0, .ref v0), (4, .int v4), (6, .int v6)]) hM d_Wo_newValue_69 (Nat.le_of_ble_eq_true rfl) rfl ?_
  refine x_iload hM d_Wo_newValue_71 0 rfl ?_
  obtain ⟨S, F⟩ := F
  have JJ : ∀ (z1 : Int32) (ez1 : z1 = (if (kI h (rf h v0 3) (Int32.toNatClampNeg v4)) ≤ 0 then 0 else (v6 - v6 / (kI h (rf h v0 3) (Int32.toNatClampNeg v4)) * (kI h (rf h v0 3) (Int32.toNatClampNeg v4))))), X G M Q 85 [] [.int z1] h := by
    intro z1 ez1
    replace F := F _ ez1
    exact x_ireturn hM d_Wo_newValue_85 rfl F
  refine x_if_le (tgt := 84) hM d_Wo_newValue_73 (by decide) (fun q2 => ?_) (fun q2 => ?_)
  · refine x_iconst (v := 0) hM d_Wo_newValue_84 (by decide) ?_
    refine x_sub [] rfl ?_
    exact JJ _ (Eq.symm (if_pos q2))
  · replace S := S q2
    refine x_iload hM d_Wo_newValue_76 3 rfl ?_
    refine x_iload hM d_Wo_newValue_78 0 rfl ?_
    have c3 := S
    refine x_irem hM d_Wo_newValue_80 c3 ?_
    refine x_goto (tgt := 85) hM d_Wo_newValue_81 (by decide) ?_
    refine x_sub [] rfl ?_
    exact JJ _ (Eq.symm (if_neg q2))
theorem d_Wo_prepare_0 : decode b_Wo_prepare 0 = .ok (.aload_n 0, 1) := by decide +kernel
theorem d_Wo_prepare_1 : decode b_Wo_prepare 1 = .ok (.getfield 44, 3) := by decide +kernel
theorem d_Wo_prepare_4 : decode b_Wo_prepare 4 = .ok (.ifCond .eq 4, 3) := by decide +kernel
theorem d_Wo_prepare_7 : decode b_Wo_prepare 7 = .ok (.return_, 1) := by decide +kernel
theorem d_Wo_prepare_8 : decode b_Wo_prepare 8 = .ok (.aload_n 0, 1) := by decide +kernel
theorem d_Wo_prepare_9 : decode b_Wo_prepare 9 = .ok (.getfield 40, 3) := by decide +kernel
theorem d_Wo_prepare_12 : decode b_Wo_prepare 12 = .ok (.ifCond .ne 7, 3) := by decide +kernel
theorem d_Wo_prepare_15 : decode b_Wo_prepare 15 = .ok (.aload_n 0, 1) := by decide +kernel
theorem d_Wo_prepare_16 : decode b_Wo_prepare 16 = .ok (.invokevirtual 108, 3) := by decide +kernel
theorem d_Wo_prepare_19 : decode b_Wo_prepare 19 = .ok (.iconst 0, 1) := by decide +kernel
theorem d_Wo_prepare_20 : decode b_Wo_prepare 20 = .ok (.istore_n 1, 1) := by decide +kernel
theorem d_Wo_prepare_21 : decode b_Wo_prepare 21 = .ok (.iload_n 1, 1) := by decide +kernel
theorem d_Wo_prepare_22 : decode b_Wo_prepare 22 = .ok (.aload_n 0, 1) := by decide +kernel
theorem d_Wo_prepare_23 : decode b_Wo_prepare 23 = .ok (.getfield 18, 3) := by decide +kernel
theorem d_Wo_prepare_26 : decode b_Wo_prepare 26 = .ok (.if_icmp .ge 31, 3) := by decide +kernel
theorem d_Wo_prepare_29 : decode b_Wo_prepare 29 = .ok (.aload_n 0, 1) := by decide +kernel
theorem d_Wo_prepare_30 : decode b_Wo_prepare 30 = .ok (.getfield 30, 3) := by decide +kernel
theorem d_Wo_prepare_33 : decode b_Wo_prepare 33 = .ok (.iload_n 1, 1) := by decide +kernel
theorem d_Wo_prepare_34 : decode b_Wo_prepare 34 = .ok (.aaload, 1) := by decide +kernel
theorem d_Wo_prepare_35 : decode b_Wo_prepare 35 = .ok (.getfield 111, 3) := by decide +kernel
theorem d_Wo_prepare_38 : decode b_Wo_prepare 38 = .ok (.ifCond .ne 13, 3) := by decide +kernel
theorem d_Wo_prepare_41 : decode b_Wo_prepare 41 = .ok (.aload_n 0, 1) := by decide +kernel
theorem d_Wo_prepare_42 : decode b_Wo_prepare 42 = .ok (.getfield 30, 3) := by decide +kernel
theorem d_Wo_prepare_45 : decode b_Wo_prepare 45 = .ok (.iload_n 1, 1) := by decide +kernel
theorem d_Wo_prepare_46 : decode b_Wo_prepare 46 = .ok (.aaload, 1) := by decide +kernel
theorem d_Wo_prepare_47 : decode b_Wo_prepare 47 = .ok (.aload_n 0, 1) := by decide +kernel
theorem d_Wo_prepare_48 : decode b_Wo_prepare 48 = .ok (.invokevirtual 114, 3) := by decide +kernel
theorem d_Wo_prepare_51 : decode b_Wo_prepare 51 = .ok (.iinc 1 1, 3) := by decide +kernel
theorem d_Wo_prepare_54 : decode b_Wo_prepare 54 = .ok (.goto (-33), 3) := by decide +kernel
theorem d_Wo_prepare_57 : decode b_Wo_prepare 57 = .ok (.aload_n 0, 1) := by decide +kernel
theorem d_Wo_prepare_58 : decode b_Wo_prepare 58 = .ok (.invokevirtual 118, 3) := by decide +kernel
theorem d_Wo_prepare_61 : decode b_Wo_prepare 61 = .ok (.aload_n 0, 1) := by decide +kernel
theorem d_Wo_prepare_62 : decode b_Wo_prepare 62 = .ok (.iconst 1, 1) := by decide +kernel
theorem d_Wo_prepare_63 : decode b_Wo_prepare 63 = .ok (.putfield 44, 3) := by decide +kernel
theorem d_Wo_prepare_66 : decode b_Wo_prepare 66 = .ok (.return_, 1) := by decide +kernel
set_option maxRecDepth 100000 in
set_option maxHeartbeats 4000000 in
theorem S_Wo_prepare_0 {G : Gc} {M : Mc} {Q : State → Prop} {K : Option Value → Hp → Prop} (hG : gok G) (hM : mok G M r_Wo_prepare Q K) (v0 : Nat) (h : Hp) (F : kT h v0 = 2 ∧ (((kI h v0 9) = 0 → (kT h v0 = 2 ∧ (((kI h v0 8) = 0 → (kT h v0 = 2 ∧ sem G r_Wo_fillPacked [.ref v0] h (fun u2 h1 => u2 = none ∧ X G M Q 21 [(0, .ref v0), (1, .int 0)] [] h1))) ∧ (¬ (kI h v0 8) = 0 → X G M Q 21 [(0, .ref v0), (1, .int 0)] [] h)))) ∧ (¬ (kI h v0 9) = 0 → K none h))) : X G M Q 0 [(0, .ref v0)] [] h := by
  refine x_aload_n hM d_Wo_prepare_0 rfl 0 rfl ?_
  obtain ⟨c7, F⟩ := F
  refine x_geti hG hM ck_Wo 9 (Nat.le_of_ble_eq_true rfl) rfl rfl w_160 rfl d_Wo_prepare_1 c7 ?_
  refine x_if_eq (tgt := 8) hM d_Wo_prepare_4 (by decide) (fun q6 => ?_) (fun q6 => ?_)
  · replace F := F.1 q6
    refine x_aload_n hM d_Wo_prepare_8 rfl 0 rfl ?_
    obtain ⟨c5, F⟩ := F
    refine x_geti hG hM ck_Wo 8 (Nat.le_of_ble_eq_true rfl) rfl rfl w_159 rfl d_Wo_prepare_9 c5 ?_
    refine x_if_ne (tgt := 19) hM d_Wo_prepare_12 (by decide) (fun q4 => ?_) (fun q4 => ?_)
    · replace F := F.2 q4
      refine x_iconst (v := 0) hM d_Wo_prepare_19 (by decide) ?_
      refine x_istore_n (lv2 := [(1, .int 0), (0, .ref v0)]) hM d_Wo_prepare_20 rfl (Nat.le_of_ble_eq_true rfl) rfl ?_
      refine x_sub [1, 0] rfl ?_
      exact F
    · replace F := F.1 q4
      refine x_aload_n hM d_Wo_prepare_15 rfl 0 rfl ?_
      obtain ⟨c3, F⟩ := F
      refine x_callV hG hM (r' := r_Wo_fillPacked) (ci := 1) [] rfl rfl (Nat.le_of_ble_eq_true rfl) yk_Wo_fillPacked ⟨Nat.le_of_ble_eq_true rfl, Nat.le_of_ble_eq_true rfl⟩ w_581 w_583 ws_Wo_fillPacked rfl rfl (Nat.le_of_ble_eq_true rfl) d_Wo_prepare_16 c3 (sem_mono F ?_)
      intro u2 h1 F
      obtain ⟨rfl, F⟩ := F
      refine x_iconst (v := 0) hM d_Wo_prepare_19 (by decide) ?_
      refine x_istore_n (lv2 := [(1, .int 0), (0, .ref v0)]) hM d_Wo_prepare_20 rfl (Nat.le_of_ble_eq_true rfl) rfl ?_
      refine x_sub [1, 0] rfl ?_
      exact F
  · replace F := F.2 q6
    exact x_return hM d_Wo_prepare_7 rfl F
set_option maxRecDepth 100000 in
set_option maxHeartbeats 4000000 in
theorem S_Wo_prepare_21 {G : Gc} {M : Mc} {Q : State → Prop} {K : Option Value → Hp → Prop} (hG : gok G) (hM : mok G M r_Wo_prepare Q K) (v0 : Nat) (v1 : Int32) (h : Hp) (F : kT h v0 = 2 ∧ (((kI h v0 2) ≤ v1 → (kT h v0 = 2 ∧ sem G r_Wo_linkBack [.ref v0] h (fun u2 h1 => u2 = none ∧ (kT h1 v0 = 2 ∧ (∀ h3 : Hp, h3 = wI h1 v0 9 1 → K none h3))))) ∧ (¬ (kI h v0 2) ≤ v1 → (kT h v0 = 2 ∧ kR h v0 5 = some (rf h v0 5) ∧ (kT h (rf h v0 5) = 53 ∧ vp_in v1 (kN h (rf h v0 5)) ∧ kR h (rf h v0 5) (Int32.toNatClampNeg v1) = some (rf h (rf h v0 5) (Int32.toNatClampNeg v1)) ∧ (kT h (rf h (rf h v0 5) (Int32.toNatClampNeg v1)) = 3 ∧ (((kI h (rf h (rf h v0 5) (Int32.toNatClampNeg v1)) 3) = 0 → (kT h v0 = 2 ∧ kR h v0 5 = some (rf h v0 5) ∧ (kT h (rf h v0 5) = 53 ∧ vp_in v1 (kN h (rf h v0 5)) ∧ kR h (rf h v0 5) (Int32.toNatClampNeg v1) = some (rf h (rf h v0 5) (Int32.toNatClampNeg v1)) ∧ (kT h (rf h (rf h v0 5) (Int32.toNatClampNeg v1)) = 3 ∧ sem G r_Ac_fillRows [.ref (rf h (rf h v0 5) (Int32.toNatClampNeg v1)), .ref v0] h (fun u7 h6 => u7 = none ∧ X G M Q 21 [(0, .ref v0), (1, .int (v1 + 1))] [] h6))))) ∧ (¬ (kI h (rf h (rf h v0 5) (Int32.toNatClampNeg v1)) 3) = 0 → X G M Q 21 [(0, .ref v0), (1, .int (v1 + 1))] [] h)))))))) : X G M Q 21 [(0, .ref v0), (1, .int v1)] [] h := by
  refine x_iload_n hM d_Wo_prepare_21 rfl 1 rfl ?_
  refine x_aload_n hM d_Wo_prepare_22 rfl 0 rfl ?_
  obtain ⟨c22, F⟩ := F
  refine x_geti hG hM ck_Wo 2 (Nat.le_of_ble_eq_true rfl) rfl rfl w_133 rfl d_Wo_prepare_23 c22 ?_
  refine x_icmp_ge (tgt := 57) hM d_Wo_prepare_26 (by decide) (fun q21 => ?_) (fun q21 => ?_)
  · replace F := F.1 q21
    refine x_aload_n hM d_Wo_prepare_57 rfl 0 rfl ?_
    obtain ⟨c5, F⟩ := F
    refine x_callV hG hM (r' := r_Wo_linkBack) (ci := 1) [] rfl rfl (Nat.le_of_ble_eq_true rfl) yk_Wo_linkBack ⟨Nat.le_of_ble_eq_true rfl, Nat.le_of_ble_eq_true rfl⟩ w_599 w_601 ws_Wo_linkBack rfl rfl (Nat.le_of_ble_eq_true rfl) d_Wo_prepare_58 c5 (sem_mono F ?_)
    intro u2 h1 F
    obtain ⟨rfl, F⟩ := F
    refine x_aload_n hM d_Wo_prepare_61 rfl 0 rfl ?_
    refine x_iconst (v := 1) hM d_Wo_prepare_62 (by decide) ?_
    obtain ⟨c4, F⟩ := F
    obtain ⟨h3, eh3⟩ : ∃ z : Hp, z = wI h1 v0 9 1 := ⟨_, rfl⟩
    replace F := F h3 eh3
    refine x_putz hG hM ck_Wo 9 (Nat.le_of_ble_eq_true rfl) rfl rfl w_160 rfl d_Wo_prepare_63 (Or.inl rfl) c4 (Or.inr rfl) ?_
    rw [← eh3]
    clear eh3
    exact x_return hM d_Wo_prepare_66 rfl F
  · replace F := F.2 q21
    refine x_aload_n hM d_Wo_prepare_29 rfl 0 rfl ?_
    obtain ⟨c19, F⟩ := F
    obtain ⟨c20, F⟩ := F
    refine x_getr hG hM ck_Wo 5 (Nat.le_of_ble_eq_true rfl) rfl rfl w_143 rfl d_Wo_prepare_30 c19 c20 ?_
    refine x_iload_n hM d_Wo_prepare_33 rfl 1 rfl ?_
    obtain ⟨c16, F⟩ := F
    obtain ⟨c17, F⟩ := F
    obtain ⟨c18, F⟩ := F
    refine x_aaload hG hM 53 rfl (Nat.le_of_ble_eq_true rfl) d_Wo_prepare_34 c16 c17 c18 ?_
    obtain ⟨c15, F⟩ := F
    refine x_geti hG hM ck_Ac 3 (Nat.le_of_ble_eq_true rfl) rfl rfl w_112 rfl d_Wo_prepare_35 c15 ?_
    refine x_if_ne (tgt := 51) hM d_Wo_prepare_38 (by decide) (fun q14 => ?_) (fun q14 => ?_)
    · replace F := F.2 q14
      refine x_iinc (v := (v1 + 1)) (lv2 := [(1, .int (v1 + 1)), (0, .ref v0)]) hM d_Wo_prepare_51 (j := 1) rfl rfl (Nat.le_of_ble_eq_true rfl) rfl ?_
      refine x_goto (tgt := 21) hM d_Wo_prepare_54 (by decide) ?_
      refine x_sub [1, 0] rfl ?_
      exact F
    · replace F := F.1 q14
      refine x_aload_n hM d_Wo_prepare_41 rfl 0 rfl ?_
      obtain ⟨c12, F⟩ := F
      obtain ⟨c13, F⟩ := F
      refine x_getr hG hM ck_Wo 5 (Nat.le_of_ble_eq_true rfl) rfl rfl w_143 rfl d_Wo_prepare_42 c12 c13 ?_
      refine x_iload_n hM d_Wo_prepare_45 rfl 1 rfl ?_
      obtain ⟨c9, F⟩ := F
      obtain ⟨c10, F⟩ := F
      obtain ⟨c11, F⟩ := F
      refine x_aaload hG hM 53 rfl (Nat.le_of_ble_eq_true rfl) d_Wo_prepare_46 c9 c10 c11 ?_
      refine x_aload_n hM d_Wo_prepare_47 rfl 0 rfl ?_
      obtain ⟨c8, F⟩ := F
      refine x_callV hG hM (r' := r_Ac_fillRows) (ci := 2) [.ref v0] rfl rfl (Nat.le_of_ble_eq_true rfl) yk_Ac_fillRows ⟨Nat.le_of_ble_eq_true rfl, Nat.le_of_ble_eq_true rfl⟩ w_592 w_593 w_594 rfl rfl (Nat.le_of_ble_eq_true rfl) d_Wo_prepare_48 c8 (sem_mono F ?_)
      intro u7 h6 F
      obtain ⟨rfl, F⟩ := F
      refine x_iinc (v := (v1 + 1)) (lv2 := [(1, .int (v1 + 1)), (0, .ref v0)]) hM d_Wo_prepare_51 (j := 1) rfl rfl (Nat.le_of_ble_eq_true rfl) rfl ?_
      refine x_goto (tgt := 21) hM d_Wo_prepare_54 (by decide) ?_
      refine x_sub [1, 0] rfl ?_
      exact F
theorem d_Wo_fillPacked_0 : decode b_Wo_fillPacked 0 = .ok (.aload_n 0, 1) := by decide +kernel
theorem d_Wo_fillPacked_1 : decode b_Wo_fillPacked 1 = .ok (.aload_n 0, 1) := by decide +kernel
theorem d_Wo_fillPacked_2 : decode b_Wo_fillPacked 2 = .ok (.getfield 34, 3) := by decide +kernel
theorem d_Wo_fillPacked_5 : decode b_Wo_fillPacked 5 = .ok (.aload_n 0, 1) := by decide +kernel
theorem d_Wo_fillPacked_6 : decode b_Wo_fillPacked 6 = .ok (.getfield 15, 3) := by decide +kernel
theorem d_Wo_fillPacked_9 : decode b_Wo_fillPacked 9 = .ok (.invokestatic 121, 3) := by decide +kernel
theorem d_Wo_fillPacked_12 : decode b_Wo_fillPacked 12 = .ok (.putfield 34, 3) := by decide +kernel
theorem d_Wo_fillPacked_15 : decode b_Wo_fillPacked 15 = .ok (.aload_n 0, 1) := by decide +kernel
theorem d_Wo_fillPacked_16 : decode b_Wo_fillPacked 16 = .ok (.aload_n 0, 1) := by decide +kernel
theorem d_Wo_fillPacked_17 : decode b_Wo_fillPacked 17 = .ok (.getfield 37, 3) := by decide +kernel
theorem d_Wo_fillPacked_20 : decode b_Wo_fillPacked 20 = .ok (.aload_n 0, 1) := by decide +kernel
theorem d_Wo_fillPacked_21 : decode b_Wo_fillPacked 21 = .ok (.getfield 15, 3) := by decide +kernel
theorem d_Wo_fillPacked_24 : decode b_Wo_fillPacked 24 = .ok (.invokestatic 121, 3) := by decide +kernel
theorem d_Wo_fillPacked_27 : decode b_Wo_fillPacked 27 = .ok (.putfield 37, 3) := by decide +kernel
theorem d_Wo_fillPacked_30 : decode b_Wo_fillPacked 30 = .ok (.iconst 0, 1) := by decide +kernel
theorem d_Wo_fillPacked_31 : decode b_Wo_fillPacked 31 = .ok (.istore_n 1, 1) := by decide +kernel
theorem d_Wo_fillPacked_32 : decode b_Wo_fillPacked 32 = .ok (.iload_n 1, 1) := by decide +kernel
theorem d_Wo_fillPacked_33 : decode b_Wo_fillPacked 33 = .ok (.aload_n 0, 1) := by decide +kernel
theorem d_Wo_fillPacked_34 : decode b_Wo_fillPacked 34 = .ok (.getfield 15, 3) := by decide +kernel
theorem d_Wo_fillPacked_37 : decode b_Wo_fillPacked 37 = .ok (.if_icmp .ge 20, 3) := by decide +kernel
theorem d_Wo_fillPacked_40 : decode b_Wo_fillPacked 40 = .ok (.aload_n 0, 1) := by decide +kernel
theorem d_Wo_fillPacked_41 : decode b_Wo_fillPacked 41 = .ok (.getfield 34, 3) := by decide +kernel
theorem d_Wo_fillPacked_44 : decode b_Wo_fillPacked 44 = .ok (.iload_n 1, 1) := by decide +kernel
theorem d_Wo_fillPacked_45 : decode b_Wo_fillPacked 45 = .ok (.aload_n 0, 1) := by decide +kernel
theorem d_Wo_fillPacked_46 : decode b_Wo_fillPacked 46 = .ok (.iload_n 1, 1) := by decide +kernel
theorem d_Wo_fillPacked_47 : decode b_Wo_fillPacked 47 = .ok (.invokevirtual 125, 3) := by decide +kernel
theorem d_Wo_fillPacked_50 : decode b_Wo_fillPacked 50 = .ok (.iastore, 1) := by decide +kernel
theorem d_Wo_fillPacked_51 : decode b_Wo_fillPacked 51 = .ok (.iinc 1 1, 3) := by decide +kernel
theorem d_Wo_fillPacked_54 : decode b_Wo_fillPacked 54 = .ok (.goto (-22), 3) := by decide +kernel
theorem d_Wo_fillPacked_57 : decode b_Wo_fillPacked 57 = .ok (.aload_n 0, 1) := by decide +kernel
theorem d_Wo_fillPacked_58 : decode b_Wo_fillPacked 58 = .ok (.iconst 1, 1) := by decide +kernel
theorem d_Wo_fillPacked_59 : decode b_Wo_fillPacked 59 = .ok (.putfield 40, 3) := by decide +kernel
theorem d_Wo_fillPacked_62 : decode b_Wo_fillPacked 62 = .ok (.return_, 1) := by decide +kernel
set_option maxRecDepth 100000 in
set_option maxHeartbeats 4000000 in
theorem S_Wo_fillPacked_0 {G : Gc} {M : Mc} {Q : State → Prop} {K : Option Value → Hp → Prop} (hG : gok G) (hM : mok G M r_Wo_fillPacked Q K) (v0 : Nat) (h : Hp) (F : kT h v0 = 2 ∧ kR h v0 6 = some (rf h v0 6) ∧ (kT h v0 = 2 ∧ (sem G r_WP_rowFor [.ref (rf h v0 6), .int (kI h v0 1)] h (fun u2 h1 => ∃ x3 : Nat, u2 = some (.ref x3) ∧ (kT h1 v0 = 2 ∧ (∀ h4 : Hp, h4 = wR h1 v0 6 (some x3) → (kT h4 v0 = 2 ∧ kR h4 v0 7 = some (rf h4 v0 7) ∧ (kT h4 v0 = 2 ∧ (sem G r_WP_rowFor [.ref (rf h4 v0 7), .int (kI h4 v0 1)] h4 (fun u6 h5 => ∃ x7 : Nat, u6 = some (.ref x7) ∧ (kT h5 v0 = 2 ∧ (∀ h8 : Hp, h8 = wR h5 v0 7 (some x7) → X G M Q 32 [(0, .ref v0), (1, .int 0)] [] h8)))))))))))) : X G M Q 0 [(0, .ref v0)] [] h := by
  refine x_aload_n hM d_Wo_fillPacked_0 rfl 0 rfl ?_
  refine x_aload_n hM d_Wo_fillPacked_1 rfl 0 rfl ?_
  obtain ⟨c15, F⟩ := F
  obtain ⟨c16, F⟩ := F
  refine x_getr hG hM ck_Wo 6 (Nat.le_of_ble_eq_true rfl) rfl rfl w_150 rfl d_Wo_fillPacked_2 c15 c16 ?_
  refine x_aload_n hM d_Wo_fillPacked_5 rfl 0 rfl ?_
  obtain ⟨c14, F⟩ := F
  refine x_geti hG hM ck_Wo 1 (Nat.le_of_ble_eq_true rfl) rfl rfl w_125 rfl d_Wo_fillPacked_6 c14 ?_
  refine x_callSN hG hM (r' := r_WP_rowFor) [.ref (rf h v0 6), .int (kI h v0 1)] rfl yk_WP_rowFor ⟨Nat.le_of_ble_eq_true rfl, Nat.le_of_ble_eq_true rfl⟩ w_585 w_586 rfl rfl (Nat.le_of_ble_eq_true rfl) d_Wo_fillPacked_9 (sem_mono F ?_)
  intro u2 h1 F
  obtain ⟨x3, rfl, F⟩ := F
  obtain ⟨c13, F⟩ := F
  obtain ⟨h4, eh4⟩ : ∃ z : Hp, z = wR h1 v0 6 (some x3) := ⟨_, rfl⟩
  replace F := F h4 eh4
  refine x_putr hG hM ck_Wo 6 (Nat.le_of_ble_eq_true rfl) (Or.inr ⟨_, rfl⟩) rfl w_150 rfl d_Wo_fillPacked_12 (Or.inl rfl) c13 ?_
  rw [← eh4]
  clear eh4
  refine x_aload_n hM d_Wo_fillPacked_15 rfl 0 rfl ?_
  refine x_aload_n hM d_Wo_fillPacked_16 rfl 0 rfl ?_
  obtain ⟨c11, F⟩ := F
  obtain ⟨c12, F⟩ := F
  refine x_getr hG hM ck_Wo 7 (Nat.le_of_ble_eq_true rfl) rfl rfl w_156 rfl d_Wo_fillPacked_17 c11 c12 ?_
  refine x_aload_n hM d_Wo_fillPacked_20 rfl 0 rfl ?_
  obtain ⟨c10, F⟩ := F
  refine x_geti hG hM ck_Wo 1 (Nat.le_of_ble_eq_true rfl) rfl rfl w_125 rfl d_Wo_fillPacked_21 c10 ?_
  refine x_callSN hG hM (r' := r_WP_rowFor) [.ref (rf h4 v0 7), .int (kI h4 v0 1)] rfl yk_WP_rowFor ⟨Nat.le_of_ble_eq_true rfl, Nat.le_of_ble_eq_true rfl⟩ w_585 w_586 rfl rfl (Nat.le_of_ble_eq_true rfl) d_Wo_fillPacked_24 (sem_mono F ?_)
  intro u6 h5 F
  obtain ⟨x7, rfl, F⟩ := F
  obtain ⟨c9, F⟩ := F
  obtain ⟨h8, eh8⟩ : ∃ z : Hp, z = wR h5 v0 7 (some x7) := ⟨_, rfl⟩
  replace F := F h8 eh8
  refine x_putr hG hM ck_Wo 7 (Nat.le_of_ble_eq_true rfl) (Or.inr ⟨_, rfl⟩) rfl w_156 rfl d_Wo_fillPacked_27 (Or.inl rfl) c9 ?_
  rw [← eh8]
  clear eh8
  refine x_iconst (v := 0) hM d_Wo_fillPacked_30 (by decide) ?_
  refine x_istore_n (lv2 := [(1, .int 0), (0, .ref v0)]) hM d_Wo_fillPacked_31 rfl (Nat.le_of_ble_eq_true rfl) rfl ?_
  refine x_sub [1, 0] rfl ?_
  exact F
set_option maxRecDepth 100000 in
set_option maxHeartbeats 4000000 in
theorem S_Wo_fillPacked_32 {G : Gc} {M : Mc} {Q : State → Prop} {K : Option Value → Hp → Prop} (hG : gok G) (hM : mok G M r_Wo_fillPacked Q K) (v0 : Nat) (v1 : Int32) (h : Hp) (F : kT h v0 = 2 ∧ (((kI h v0 1) ≤ v1 → (kT h v0 = 2 ∧ (∀ h1 : Hp, h1 = wI h v0 8 1 → K none h1))) ∧ (¬ (kI h v0 1) ≤ v1 → (kT h v0 = 2 ∧ kR h v0 6 = some (rf h v0 6) ∧ (kT h v0 = 2 ∧ sem G r_Wo_pack [.ref v0, .int v1] h (fun u4 h3 => ∃ x5 : Int32, u4 = some (.int x5) ∧ (kT h3 (rf h v0 6) = 50 ∧ vp_in v1 (kN h3 (rf h v0 6)) ∧ (∀ h6 : Hp, h6 = wI h3 (rf h v0 6) (Int32.toNatClampNeg v1) x5 → X G M Q 32 [(0, .ref v0), (1, .int (v1 + 1))] [] h6)))))))) : X G M Q 32 [(0, .ref v0), (1, .int v1)] [] h := by
  refine x_iload_n hM d_Wo_fillPacked_32 rfl 1 rfl ?_
  refine x_aload_n hM d_Wo_fillPacked_33 rfl 0 rfl ?_
  obtain ⟨c13, F⟩ := F
  refine x_geti hG hM ck_Wo 1 (Nat.le_of_ble_eq_true rfl) rfl rfl w_125 rfl d_Wo_fillPacked_34 c13 ?_
  refine x_icmp_ge (tgt := 57) hM d_Wo_fillPacked_37 (by decide) (fun q12 => ?_) (fun q12 => ?_)
  · replace F := F.1 q12
    refine x_aload_n hM d_Wo_fillPacked_57 rfl 0 rfl ?_
    refine x_iconst (v := 1) hM d_Wo_fillPacked_58 (by decide) ?_
    obtain ⟨c2, F⟩ := F
    obtain ⟨h1, eh1⟩ : ∃ z : Hp, z = wI h v0 8 1 := ⟨_, rfl⟩
    replace F := F h1 eh1
    refine x_putz hG hM ck_Wo 8 (Nat.le_of_ble_eq_true rfl) rfl rfl w_159 rfl d_Wo_fillPacked_59 (Or.inl rfl) c2 (Or.inr rfl) ?_
    rw [← eh1]
    clear eh1
    exact x_return hM d_Wo_fillPacked_62 rfl F
  · replace F := F.2 q12
    refine x_aload_n hM d_Wo_fillPacked_40 rfl 0 rfl ?_
    obtain ⟨c10, F⟩ := F
    obtain ⟨c11, F⟩ := F
    refine x_getr hG hM ck_Wo 6 (Nat.le_of_ble_eq_true rfl) rfl rfl w_150 rfl d_Wo_fillPacked_41 c10 c11 ?_
    refine x_iload_n hM d_Wo_fillPacked_44 rfl 1 rfl ?_
    refine x_aload_n hM d_Wo_fillPacked_45 rfl 0 rfl ?_
    refine x_iload_n hM d_Wo_fillPacked_46 rfl 1 rfl ?_
    obtain ⟨c9, F⟩ := F
    refine x_callV hG hM (r' := r_Wo_pack) (ci := 1) [.int v1] rfl rfl (Nat.le_of_ble_eq_true rfl) yk_Wo_pack ⟨Nat.le_of_ble_eq_true rfl, Nat.le_of_ble_eq_true rfl⟩ w_591 w_550 w_551 rfl rfl (Nat.le_of_ble_eq_true rfl) d_Wo_fillPacked_47 c9 (sem_mono F ?_)
    intro u4 h3 F
    obtain ⟨x5, rfl, F⟩ := F
    obtain ⟨c7, F⟩ := F
    obtain ⟨c8, F⟩ := F
    obtain ⟨h6, eh6⟩ : ∃ z : Hp, z = wI h3 (rf h v0 6) (Int32.toNatClampNeg v1) x5 := ⟨_, rfl⟩
    replace F := F h6 eh6
    refine x_iastore hG hM d_Wo_fillPacked_50 c7 c8 ?_
    rw [← eh6]
    clear eh6
    refine x_iinc (v := (v1 + 1)) (lv2 := [(1, .int (v1 + 1)), (0, .ref v0)]) hM d_Wo_fillPacked_51 (j := 1) rfl rfl (Nat.le_of_ble_eq_true rfl) rfl ?_
    refine x_goto (tgt := 32) hM d_Wo_fillPacked_54 (by decide) ?_
    refine x_sub [1, 0] rfl ?_
    exact F
theorem d_Wo_linkBack_0 : decode b_Wo_linkBack 0 = .ok (.aload_n 0, 1) := by decide +kernel
theorem d_Wo_linkBack_1 : decode b_Wo_linkBack 1 = .ok (.getfield 37, 3) := by decide +kernel
theorem d_Wo_linkBack_4 : decode b_Wo_linkBack 4 = .ok (.iconst 0, 1) := by decide +kernel
theorem d_Wo_linkBack_5 : decode b_Wo_linkBack 5 = .ok (.aload_n 0, 1) := by decide +kernel
theorem d_Wo_linkBack_6 : decode b_Wo_linkBack 6 = .ok (.getfield 15, 3) := by decide +kernel
theorem d_Wo_linkBack_9 : decode b_Wo_linkBack 9 = .ok (.iconst (-1), 1) := by decide +kernel
theorem d_Wo_linkBack_10 : decode b_Wo_linkBack 10 = .ok (.invokestatic 128, 3) := by decide +kernel
theorem d_Wo_linkBack_13 : decode b_Wo_linkBack 13 = .ok (.iconst 0, 1) := by decide +kernel
theorem d_Wo_linkBack_14 : decode b_Wo_linkBack 14 = .ok (.istore_n 1, 1) := by decide +kernel
theorem d_Wo_linkBack_15 : decode b_Wo_linkBack 15 = .ok (.iload_n 1, 1) := by decide +kernel
theorem d_Wo_linkBack_16 : decode b_Wo_linkBack 16 = .ok (.aload_n 0, 1) := by decide +kernel
theorem d_Wo_linkBack_17 : decode b_Wo_linkBack 17 = .ok (.getfield 18, 3) := by decide +kernel
theorem d_Wo_linkBack_20 : decode b_Wo_linkBack 20 = .ok (.if_icmp .ge 51, 3) := by decide +kernel
theorem d_Wo_linkBack_23 : decode b_Wo_linkBack 23 = .ok (.iconst 0, 1) := by decide +kernel
theorem d_Wo_linkBack_24 : decode b_Wo_linkBack 24 = .ok (.istore_n 2, 1) := by decide +kernel
theorem d_Wo_linkBack_25 : decode b_Wo_linkBack 25 = .ok (.iload_n 2, 1) := by decide +kernel
theorem d_Wo_linkBack_26 : decode b_Wo_linkBack 26 = .ok (.aload_n 0, 1) := by decide +kernel
theorem d_Wo_linkBack_27 : decode b_Wo_linkBack 27 = .ok (.getfield 30, 3) := by decide +kernel
theorem d_Wo_linkBack_30 : decode b_Wo_linkBack 30 = .ok (.iload_n 1, 1) := by decide +kernel
theorem d_Wo_linkBack_31 : decode b_Wo_linkBack 31 = .ok (.aaload, 1) := by decide +kernel
theorem d_Wo_linkBack_32 : decode b_Wo_linkBack 32 = .ok (.getfield 55, 3) := by decide +kernel
theorem d_Wo_linkBack_35 : decode b_Wo_linkBack 35 = .ok (.if_icmp .ge 30, 3) := by decide +kernel
theorem d_Wo_linkBack_38 : decode b_Wo_linkBack 38 = .ok (.aload_n 0, 1) := by decide +kernel
theorem d_Wo_linkBack_39 : decode b_Wo_linkBack 39 = .ok (.aload_n 0, 1) := by decide +kernel
theorem d_Wo_linkBack_40 : decode b_Wo_linkBack 40 = .ok (.getfield 30, 3) := by decide +kernel
theorem d_Wo_linkBack_43 : decode b_Wo_linkBack 43 = .ok (.iload_n 1, 1) := by decide +kernel
theorem d_Wo_linkBack_44 : decode b_Wo_linkBack 44 = .ok (.aaload, 1) := by decide +kernel
theorem d_Wo_linkBack_45 : decode b_Wo_linkBack 45 = .ok (.getfield 90, 3) := by decide +kernel
theorem d_Wo_linkBack_48 : decode b_Wo_linkBack 48 = .ok (.iload_n 2, 1) := by decide +kernel
theorem d_Wo_linkBack_49 : decode b_Wo_linkBack 49 = .ok (.aaload, 1) := by decide +kernel
theorem d_Wo_linkBack_50 : decode b_Wo_linkBack 50 = .ok (.iload_n 1, 1) := by decide +kernel
theorem d_Wo_linkBack_51 : decode b_Wo_linkBack 51 = .ok (.iload_n 2, 1) := by decide +kernel
theorem d_Wo_linkBack_52 : decode b_Wo_linkBack 52 = .ok (.iconst 0, 1) := by decide +kernel
theorem d_Wo_linkBack_53 : decode b_Wo_linkBack 53 = .ok (.invokestatic 134, 3) := by decide +kernel
theorem d_Wo_linkBack_56 : decode b_Wo_linkBack 56 = .ok (.invokevirtual 138, 3) := by decide +kernel
theorem d_Wo_linkBack_59 : decode b_Wo_linkBack 59 = .ok (.iinc 2 1, 3) := by decide +kernel
theorem d_Wo_linkBack_62 : decode b_Wo_linkBack 62 = .ok (.goto (-37), 3) := by decide +kernel
theorem d_Wo_linkBack_65 : decode b_Wo_linkBack 65 = .ok (.iinc 1 1, 3) := by decide +kernel
theorem d_Wo_linkBack_68 : decode b_Wo_linkBack 68 = .ok (.goto (-53), 3) := by decide +kernel
theorem d_Wo_linkBack_71 : decode b_Wo_linkBack 71 = .ok (.return_, 1) := by decide +kernel
set_option maxRecDepth 100000 in
set_option maxHeartbeats 4000000 in
theorem S_Wo_linkBack_0 {G : Gc} {M : Mc} {Q : State → Prop} {K : Option Value → Hp → Prop} (hG : gok G) (hM : mok G M r_Wo_linkBack Q K) (v0 : Nat) (h : Hp) (F : kT h v0 = 2 ∧ kR h v0 7 = some (rf h v0 7) ∧ (kT h v0 = 2 ∧ (sem G r_Ar_fill [.ref (rf h v0 7), .int 0, .int (kI h v0 1), .int (-1)] h (fun u2 h1 => u2 = none ∧ X G M Q 15 [(0, .ref v0), (1, .int 0)] [] h1)))) : X G M Q 0 [(0, .ref v0)] [] h := by
  refine x_aload_n hM d_Wo_linkBack_0 rfl 0 rfl ?_
  obtain ⟨c4, F⟩ := F
  obtain ⟨c5, F⟩ := F
  refine x_getr hG hM ck_Wo 7 (Nat.le_of_ble_eq_true rfl) rfl rfl w_156 rfl d_Wo_linkBack_1 c4 c5 ?_
  refine x_iconst (v := 0) hM d_Wo_linkBack_4 (by decide) ?_
  refine x_aload_n hM d_Wo_linkBack_5 rfl 0 rfl ?_
  obtain ⟨c3, F⟩ := F
  refine x_geti hG hM ck_Wo 1 (Nat.le_of_ble_eq_true rfl) rfl rfl w_125 rfl d_Wo_linkBack_6 c3 ?_
  refine x_iconst (v := (-1)) hM d_Wo_linkBack_9 (by decide) ?_
  refine x_callS hG hM (r' := r_Ar_fill) [.ref (rf h v0 7), .int 0, .int (kI h v0 1), .int (-1)] rfl yk_Ar_fill ⟨Nat.le_of_ble_eq_true rfl, Nat.le_of_ble_eq_true rfl⟩ w_603 w_604 rfl rfl (Nat.le_of_ble_eq_true rfl) d_Wo_linkBack_10 (sem_mono F ?_)
  intro u2 h1 F
  obtain ⟨rfl, F⟩ := F
  refine x_iconst (v := 0) hM d_Wo_linkBack_13 (by decide) ?_
  refine x_istore_n (lv2 := [(1, .int 0), (0, .ref v0)]) hM d_Wo_linkBack_14 rfl (Nat.le_of_ble_eq_true rfl) rfl ?_
  refine x_sub [1, 0] rfl ?_
  exact F
set_option maxRecDepth 100000 in
set_option maxHeartbeats 4000000 in
theorem S_Wo_linkBack_15 {G : Gc} {M : Mc} {Q : State → Prop} {K : Option Value → Hp → Prop} (hG : gok G) (hM : mok G M r_Wo_linkBack Q K) (v0 : Nat) (v1 : Int32) (h : Hp) (F : kT h v0 = 2 ∧ (((kI h v0 2) ≤ v1 → K none h) ∧ (¬ (kI h v0 2) ≤ v1 → X G M Q 25 [(0, .ref v0), (1, .int v1), (2, .int 0)] [] h))) : X G M Q 15 [(0, .ref v0), (1, .int v1)] [] h := by
  refine x_iload_n hM d_Wo_linkBack_15 rfl 1 rfl ?_
  refine x_aload_n hM d_Wo_linkBack_16 rfl 0 rfl ?_
  obtain ⟨c2, F⟩ := F
  refine x_geti hG hM ck_Wo 2 (Nat.le_of_ble_eq_true rfl) rfl rfl w_133 rfl d_Wo_linkBack_17 c2 ?_
  refine x_icmp_ge (tgt := 71) hM d_Wo_linkBack_20 (by decide) (fun q1 => ?_) (fun q1 => ?_)
  · replace F := F.1 q1
    exact x_return hM d_Wo_linkBack_71 rfl F
  · replace F := F.2 q1
    refine x_iconst (v := 0) hM d_Wo_linkBack_23 (by decide) ?_
    refine x_istore_n (lv2 := [(2, .int 0), (0, .ref v0), (1, .int v1)]) hM d_Wo_linkBack_24 rfl (Nat.le_of_ble_eq_true rfl) rfl ?_
    refine x_sub [1, 2, 0] rfl ?_
    exact F
set_option maxRecDepth 100000 in
set_option maxHeartbeats 4000000 in
theorem S_Wo_linkBack_25 {G : Gc} {M : Mc} {Q : State → Prop} {K : Option Value → Hp → Prop} (hG : gok G) (hM : mok G M r_Wo_linkBack Q K) (v0 : Nat) (v1 : Int32) (v2 : Int32) (h : Hp) (F : kT h v0 = 2 ∧ kR h v0 5 = some (rf h v0 5) ∧ (kT h (rf h v0 5) = 53 ∧ vp_in v1 (kN h (rf h v0 5)) ∧ kR h (rf h v0 5) (Int32.toNatClampNeg v1) = some (rf h (rf h v0 5) (Int32.toNatClampNeg v1)) ∧ (kT h (rf h (rf h v0 5) (Int32.toNatClampNeg v1)) = 3 ∧ (((kI h (rf h (rf h v0 5) (Int32.toNatClampNeg v1)) 2) ≤ v2 → X G M Q 15 [(0, .ref v0), (1, .int (v1 + 1))] [] h) ∧ (¬ (kI h (rf h (rf h v0 5) (Int32.toNatClampNeg v1)) 2) ≤ v2 → (kT h v0 = 2 ∧ kR h v0 5 = some (rf h v0 5) ∧ (kT h (rf h v0 5) = 53 ∧ vp_in v1 (kN h (rf h v0 5)) ∧ kR h (rf h v0 5) (Int32.toNatClampNeg v1) = some (rf h (rf h v0 5) (Int32.toNatClampNeg v1)) ∧ (kT h (rf h (rf h v0 5) (Int32.toNatClampNeg v1)) = 3 ∧ kR h (rf h (rf h v0 5) (Int32.toNatClampNeg v1)) 1 = some (rf h (rf h (rf h v0 5) (Int32.toNatClampNeg v1)) 1) ∧ (kT h (rf h (rf h (rf h v0 5) (Int32.toNatClampNeg v1)) 1) = 54 ∧ vp_in v2 (kN h (rf h (rf h (rf h v0 5) (Int32.toNatClampNeg v1)) 1)) ∧ kR h (rf h (rf h (rf h v0 5) (Int32.toNatClampNeg v1)) 1) (Int32.toNatClampNeg v2) = some (rf h (rf h (rf h (rf h v0 5) (Int32.toNatClampNeg v1)) 1) (Int32.toNatClampNeg v2)) ∧ (sem G r_WP_edgeOf [.int v1, .int v2, .int 0] h (fun u2 h1 => ∃ x3 : Int32, u2 = some (.int x3) ∧ (kT h1 v0 = 2 ∧ sem G r_Wo_linkOutcome [.ref v0, .ref (rf h (rf h (rf h (rf h v0 5) (Int32.toNatClampNeg v1)) 1) (Int32.toNatClampNeg v2)), .int x3] h1 (fun u5 h4 => u5 = none ∧ X G M Q 25 [(0, .ref v0), (1, .int v1), (2, .int (v2 + 1))] [] h4))))))))))))) : X G M Q 25 [(0, .ref v0), (1, .int v1), (2, .int v2)] [] h := by
  refine x_iload_n hM d_Wo_linkBack_25 rfl 2 rfl ?_
  refine x_aload_n hM d_Wo_linkBack_26 rfl 0 rfl ?_
  obtain ⟨c22, F⟩ := F
  obtain ⟨c23, F⟩ := F
  refine x_getr hG hM ck_Wo 5 (Nat.le_of_ble_eq_true rfl) rfl rfl w_143 rfl d_Wo_linkBack_27 c22 c23 ?_
  refine x_iload_n hM d_Wo_linkBack_30 rfl 1 rfl ?_
  obtain ⟨c19, F⟩ := F
  obtain ⟨c20, F⟩ := F
  obtain ⟨c21, F⟩ := F
  refine x_aaload hG hM 53 rfl (Nat.le_of_ble_eq_true rfl) d_Wo_linkBack_31 c19 c20 c21 ?_
  obtain ⟨c18, F⟩ := F
  refine x_geti hG hM ck_Ac 2 (Nat.le_of_ble_eq_true rfl) rfl rfl w_109 rfl d_Wo_linkBack_32 c18 ?_
  refine x_icmp_ge (tgt := 65) hM d_Wo_linkBack_35 (by decide) (fun q17 => ?_) (fun q17 => ?_)
  · replace F := F.1 q17
    refine x_iinc (v := (v1 + 1)) (lv2 := [(1, .int (v1 + 1)), (0, .ref v0), (2, .int v2)]) hM d_Wo_linkBack_65 (j := 1) rfl rfl (Nat.le_of_ble_eq_true rfl) rfl ?_
    refine x_goto (tgt := 15) hM d_Wo_linkBack_68 (by decide) ?_
    refine x_sub [1, 0] rfl ?_
    exact F
  · replace F := F.2 q17
    refine x_aload_n hM d_Wo_linkBack_38 rfl 0 rfl ?_
    refine x_aload_n hM d_Wo_linkBack_39 rfl 0 rfl ?_
    obtain ⟨c15, F⟩ := F
    obtain ⟨c16, F⟩ := F
    refine x_getr hG hM ck_Wo 5 (Nat.le_of_ble_eq_true rfl) rfl rfl w_143 rfl d_Wo_linkBack_40 c15 c16 ?_
    refine x_iload_n hM d_Wo_linkBack_43 rfl 1 rfl ?_
    obtain ⟨c12, F⟩ := F
    obtain ⟨c13, F⟩ := F
    obtain ⟨c14, F⟩ := F
    refine x_aaload hG hM 53 rfl (Nat.le_of_ble_eq_true rfl) d_Wo_linkBack_44 c12 c13 c14 ?_
    obtain ⟨c10, F⟩ := F
    obtain ⟨c11, F⟩ := F
    refine x_getr hG hM ck_Ac 1 (Nat.le_of_ble_eq_true rfl) rfl rfl w_103 rfl d_Wo_linkBack_45 c10 c11 ?_
    refine x_iload_n hM d_Wo_linkBack_48 rfl 2 rfl ?_
    obtain ⟨c7, F⟩ := F
    obtain ⟨c8, F⟩ := F
    obtain ⟨c9, F⟩ := F
    refine x_aaload hG hM 54 rfl (Nat.le_of_ble_eq_true rfl) d_Wo_linkBack_49 c7 c8 c9 ?_
    refine x_iload_n hM d_Wo_linkBack_50 rfl 1 rfl ?_
    refine x_iload_n hM d_Wo_linkBack_51 rfl 2 rfl ?_
    refine x_iconst (v := 0) hM d_Wo_linkBack_52 (by decide) ?_
    refine x_callSN hG hM (r' := r_WP_edgeOf) [.int v1, .int v2, .int 0] rfl yk_WP_edgeOf ⟨Nat.le_of_ble_eq_true rfl, Nat.le_of_ble_eq_true rfl⟩ w_609 w_610 rfl rfl (Nat.le_of_ble_eq_true rfl) d_Wo_linkBack_53 (sem_mono F ?_)
    intro u2 h1 F
    obtain ⟨x3, rfl, F⟩ := F
    obtain ⟨c6, F⟩ := F
    refine x_callV hG hM (r' := r_Wo_linkOutcome) (ci := 1) [.ref (rf h (rf h (rf h (rf h v0 5) (Int32.toNatClampNeg v1)) 1) (Int32.toNatClampNeg v2)), .int x3] rfl rfl (Nat.le_of_ble_eq_true rfl) yk_Wo_linkOutcome ⟨Nat.le_of_ble_eq_true rfl, Nat.le_of_ble_eq_true rfl⟩ w_612 w_614 ws_Wo_linkOutcome rfl rfl (Nat.le_of_ble_eq_true rfl) d_Wo_linkBack_56 c6 (sem_mono F ?_)
    intro u5 h4 F
    obtain ⟨rfl, F⟩ := F
    refine x_iinc (v := (v2 + 1)) (lv2 := [(2, .int (v2 + 1)), (0, .ref v0), (1, .int v1)]) hM d_Wo_linkBack_59 (j := 2) rfl rfl (Nat.le_of_ble_eq_true rfl) rfl ?_
    refine x_goto (tgt := 25) hM d_Wo_linkBack_62 (by decide) ?_
    refine x_sub [1, 2, 0] rfl ?_
    exact F
