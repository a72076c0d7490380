theorem d_WP_valueIn_0 : decode b_WP_valueIn 0 = .ok (.iload_n 0, 1) := by decide +kernel
theorem d_WP_valueIn_1 : decode b_WP_valueIn 1 = .ok (.iconst 2, 1) := by decide +kernel
theorem d_WP_valueIn_2 : decode b_WP_valueIn 2 = .ok (.iload_n 1, 1) := by decide +kernel
theorem d_WP_valueIn_3 : decode b_WP_valueIn 3 = .ok (.imul, 1) := by decide +kernel
theorem d_WP_valueIn_4 : decode b_WP_valueIn 4 = .ok (.ishr, 1) := by decide +kernel
theorem d_WP_valueIn_5 : decode b_WP_valueIn 5 = .ok (.iconst 3, 1) := by decide +kernel
theorem d_WP_valueIn_6 : decode b_WP_valueIn 6 = .ok (.iand, 1) := by decide +kernel
theorem d_WP_valueIn_7 : decode b_WP_valueIn 7 = .ok (.ireturn, 1) := by decide +kernel
set_option maxRecDepth 100000 in
set_option maxHeartbeats 4000000 in
theorem S_WP_valueIn_0 {G : Gc} {M : Mc} {Q : State → Prop} {K : Option Value → Hp → Prop} (hG : gok G) (hM : mok G M r_WP_valueIn Q K) (v0 : Int32) (v1 : Int32) (h : Hp) (F : K (some (.int ((v0 >>> ((2 * v1) &&& 31)) &&& 3))) h) : X G M Q 0 [(0, .int v0), (1, .int v1)] [] h := by
  refine x_iload_n hM d_WP_valueIn_0 rfl 0 rfl ?_
  refine x_iconst (v := 2) hM d_WP_valueIn_1 (by decide) ?_
  refine x_iload_n hM d_WP_valueIn_2 rfl 1 rfl ?_
  refine x_imul hM d_WP_valueIn_3 ?_
  refine x_ishr hM d_WP_valueIn_4 ?_
  refine x_iconst (v := 3) hM d_WP_valueIn_5 (by decide) ?_
  refine x_iand hM d_WP_valueIn_6 ?_
  exact x_ireturn hM d_WP_valueIn_7 rfl F
theorem d_WP_rowFor_0 : decode b_WP_rowFor 0 = .ok (.aload_n 0, 1) := by decide +kernel
theorem d_WP_rowFor_1 : decode b_WP_rowFor 1 = .ok (.arraylength, 1) := by decide +kernel
theorem d_WP_rowFor_2 : decode b_WP_rowFor 2 = .ok (.iload_n 1, 1) := by decide +kernel
theorem d_WP_rowFor_3 : decode b_WP_rowFor 3 = .ok (.if_icmp .lt 7, 3) := by decide +kernel
theorem d_WP_rowFor_6 : decode b_WP_rowFor 6 = .ok (.aload_n 0, 1) := by decide +kernel
theorem d_WP_rowFor_7 : decode b_WP_rowFor 7 = .ok (.goto 9, 3) := by decide +kernel
theorem d_WP_rowFor_10 : decode b_WP_rowFor 10 = .ok (.iload_n 1, 1) := by decide +kernel
theorem d_WP_rowFor_11 : decode b_WP_rowFor 11 = .ok (.invokestatic 327, 3) := by decide +kernel
theorem d_WP_rowFor_14 : decode b_WP_rowFor 14 = .ok (.newarray .int, 2) := by decide +kernel
theorem d_WP_rowFor_16 : decode b_WP_rowFor 16 = .ok (.areturn, 1) := by decide +kernel
set_option maxRecDepth 100000 in
set_option maxHeartbeats 4000000 in
theorem S_WP_rowFor_0 {G : Gc} {M : Mc} {Q : State → Prop} {K : Option Value → Hp → Prop} (hG : gok G) (hM : mok G M r_WP_rowFor Q K) (v0 : Nat) (v1 : Int32) (h : Hp) (F : kT h v0 = 50 ∧ (((nI (kN h v0)) < v1 → (sem G r_WP_roomFor [.int v1] h (fun u2 h1 => ∃ x3 : Int32, u2 = some (.int x3) ∧ (¬ x3 < 0 ∧ kX h1 + 1 ≤ gB G + capC ∧ kS h1 + (Int32.toNatClampNeg x3) ≤ capS ∧ (∀ h4 : Hp, h4 = wA h1 50 (Int32.toNatClampNeg x3) (Int32.toNatClampNeg x3) → K (some (.ref (kX h1))) h4))))) ∧ (¬ (nI (kN h v0)) < v1 → K (some (.ref v0)) h))) : X G M Q 0 [(0, .ref v0), (1, .int v1)] [] h := by
  refine x_aload_n hM d_WP_rowFor_0 rfl 0 rfl ?_
  obtain ⟨c9, F⟩ := F
  refine x_alen hG hM 50 rfl (Nat.le_of_ble_eq_true rfl) d_WP_rowFor_1 c9 ?_
  refine x_iload_n hM d_WP_rowFor_2 rfl 1 rfl ?_
  refine x_icmp_lt (tgt := 10) hM d_WP_rowFor_3 (by decide) (fun q8 => ?_) (fun q8 => ?_)
  · replace F := F.1 q8
    refine x_iload_n hM d_WP_rowFor_10 rfl 1 rfl ?_
    refine x_callS hG hM (r' := r_WP_roomFor) [.int v1] rfl yk_WP_roomFor ⟨Nat.le_of_ble_eq_true rfl, Nat.le_of_ble_eq_true rfl⟩ w_588 w_589 rfl rfl (Nat.le_of_ble_eq_true rfl) d_WP_rowFor_11 (sem_mono F ?_)
    intro u2 h1 F
    obtain ⟨x3, rfl, F⟩ := F
    obtain ⟨c5, F⟩ := F
    obtain ⟨c6, F⟩ := F
    obtain ⟨c7, F⟩ := F
    obtain ⟨h4, eh4⟩ : ∃ z : Hp, z = wA h1 50 (Int32.toNatClampNeg x3) (Int32.toNatClampNeg x3) := ⟨_, rfl⟩
    replace F := F h4 eh4
    refine x_newI hG hM (N := (Int32.toNatClampNeg x3)) w_63 d_WP_rowFor_14 c5 rfl c6 c7 ?_
    rw [← eh4]
    clear eh4
    exact x_areturn hM d_WP_rowFor_16 ⟨_, rfl, Or.inr ⟨_, rfl⟩⟩ F
  · replace F := F.2 q8
    refine x_aload_n hM d_WP_rowFor_6 rfl 0 rfl ?_
    refine x_goto (tgt := 16) hM d_WP_rowFor_7 (by decide) ?_
    exact x_areturn hM d_WP_rowFor_16 ⟨_, rfl, Or.inr ⟨_, rfl⟩⟩ F
theorem d_WP_roomFor_0 : decode b_WP_roomFor 0 = .ok (.bipush 8, 2) := by decide +kernel
theorem d_WP_roomFor_2 : decode b_WP_roomFor 2 = .ok (.istore_n 1, 1) := by decide +kernel
theorem d_WP_roomFor_3 : decode b_WP_roomFor 3 = .ok (.iconst 0, 1) := by decide +kernel
theorem d_WP_roomFor_4 : decode b_WP_roomFor 4 = .ok (.istore_n 2, 1) := by decide +kernel
theorem d_WP_roomFor_5 : decode b_WP_roomFor 5 = .ok (.iload_n 2, 1) := by decide +kernel
theorem d_WP_roomFor_6 : decode b_WP_roomFor 6 = .ok (.iconst 3, 1) := by decide +kernel
theorem d_WP_roomFor_7 : decode b_WP_roomFor 7 = .ok (.if_icmp .ge 19, 3) := by decide +kernel
theorem d_WP_roomFor_10 : decode b_WP_roomFor 10 = .ok (.iload_n 1, 1) := by decide +kernel
theorem d_WP_roomFor_11 : decode b_WP_roomFor 11 = .ok (.iload_n 0, 1) := by decide +kernel
theorem d_WP_roomFor_12 : decode b_WP_roomFor 12 = .ok (.if_icmp .ge 14, 3) := by decide +kernel
theorem d_WP_roomFor_15 : decode b_WP_roomFor 15 = .ok (.iload_n 1, 1) := by decide +kernel
theorem d_WP_roomFor_16 : decode b_WP_roomFor 16 = .ok (.bipush 8, 2) := by decide +kernel
theorem d_WP_roomFor_18 : decode b_WP_roomFor 18 = .ok (.imul, 1) := by decide +kernel
theorem d_WP_roomFor_19 : decode b_WP_roomFor 19 = .ok (.istore_n 1, 1) := by decide +kernel
theorem d_WP_roomFor_20 : decode b_WP_roomFor 20 = .ok (.iinc 2 1, 3) := by decide +kernel
theorem d_WP_roomFor_23 : decode b_WP_roomFor 23 = .ok (.goto (-18), 3) := by decide +kernel
theorem d_WP_roomFor_26 : decode b_WP_roomFor 26 = .ok (.iload_n 1, 1) := by decide +kernel
theorem d_WP_roomFor_27 : decode b_WP_roomFor 27 = .ok (.ireturn, 1) := by decide +kernel
set_option maxRecDepth 100000 in
set_option maxHeartbeats 4000000 in
theorem S_WP_roomFor_0 {G : Gc} {M : Mc} {Q : State → Prop} {K : Option Value → Hp → Prop} (hG : gok G) (hM : mok G M r_WP_roomFor Q K) (v0 : Int32) (h : Hp) (F : X G M Q 5 [(0, .int v0), (1, .int 8), (2, .int 0)] [] h) : X G M Q 0 [(0, .int v0)] [] h := by
  refine x_bipush (v := 8) hM d_WP_roomFor_0 (by decide) ?_
  refine x_istore_n (lv2 := [(1, .int 8), (0, .int v0)]) hM d_WP_roomFor_2 rfl (Nat.le_of_ble_eq_true rfl) rfl ?_
  refine x_iconst (v := 0) hM d_WP_roomFor_3 (by decide) ?_
  refine x_istore_n (lv2 := [(2, .int 0), (1, .int 8), (0, .int v0)]) hM d_WP_roomFor_4 rfl (Nat.le_of_ble_eq_true rfl) rfl ?_
  refine x_sub [2, 1, 0] rfl ?_
  exact F
set_option maxRecDepth 100000 in
set_option maxHeartbeats 4000000 in
theorem S_WP_roomFor_5 {G : Gc} {M : Mc} {Q : State → Prop} {K : Option Value → Hp → Prop} (hG : gok G) (hM : mok G M r_WP_roomFor Q K) (v0 : Int32) (v1 : Int32) (v2 : Int32) (h : Hp) (F : (3 ≤ v2 → K (some (.int v1)) h) ∧ (¬ 3 ≤ v2 → ((v0 ≤ v1 → K (some (.int v1)) h) ∧ (¬ v0 ≤ v1 → X G M Q 5 [(0, .int v0), (1, .int (v1 * 8)), (2, .int (v2 + 1))] [] h)))) : X G M Q 5 [(0, .int v0), (1, .int v1), (2, .int v2)] [] h := by
  refine x_iload_n hM d_WP_roomFor_5 rfl 2 rfl ?_
  refine x_iconst (v := 3) hM d_WP_roomFor_6 (by decide) ?_
  refine x_icmp_ge (tgt := 26) hM d_WP_roomFor_7 (by decide) (fun q2 => ?_) (fun q2 => ?_)
  · replace F := F.1 q2
    refine x_iload_n hM d_WP_roomFor_26 rfl 1 rfl ?_
    exact x_ireturn hM d_WP_roomFor_27 rfl F
  · replace F := F.2 q2
    refine x_iload_n hM d_WP_roomFor_10 rfl 1 rfl ?_
    refine x_iload_n hM d_WP_roomFor_11 rfl 0 rfl ?_
    refine x_icmp_ge (tgt := 26) hM d_WP_roomFor_12 (by decide) (fun q1 => ?_) (fun q1 => ?_)
    · replace F := F.1 q1
      refine x_iload_n hM d_WP_roomFor_26 rfl 1 rfl ?_
      exact x_ireturn hM d_WP_roomFor_27 rfl F
    · replace F := F.2 q1
      refine x_iload_n hM d_WP_roomFor_15 rfl 1 rfl ?_
      refine x_bipush (v := 8) hM d_WP_roomFor_16 (by decide) ?_
      refine x_imul hM d_WP_roomFor_18 ?_
      refine x_istore_n (lv2 := [(1, .int (v1 * 8)), (0, .int v0), (2, .int v2)]) hM d_WP_roomFor_19 rfl (Nat.le_of_ble_eq_true rfl) rfl ?_
      refine x_iinc (v := (v2 + 1)) (lv2 := [(2, .int (v2 + 1)), (1, .int (v1 * 8)), (0, .int v0)]) hM d_WP_roomFor_20 (j := 2) rfl rfl (Nat.le_of_ble_eq_true rfl) rfl ?_
      refine x_goto (tgt := 5) hM d_WP_roomFor_23 (by decide) ?_
      refine x_sub [2, 1, 0] rfl ?_
      exact F
theorem d_WP_edgeOf_0 : decode b_WP_edgeOf 0 = .ok (.iload_n 0, 1) := by decide +kernel
theorem d_WP_edgeOf_1 : decode b_WP_edgeOf 1 = .ok (.bipush 14, 2) := by decide +kernel
theorem d_WP_edgeOf_3 : decode b_WP_edgeOf 3 = .ok (.ishl, 1) := by decide +kernel
theorem d_WP_edgeOf_4 : decode b_WP_edgeOf 4 = .ok (.iload_n 1, 1) := by decide +kernel
theorem d_WP_edgeOf_5 : decode b_WP_edgeOf 5 = .ok (.bipush 12, 2) := by decide +kernel
theorem d_WP_edgeOf_7 : decode b_WP_edgeOf 7 = .ok (.ishl, 1) := by decide +kernel
theorem d_WP_edgeOf_8 : decode b_WP_edgeOf 8 = .ok (.ior, 1) := by decide +kernel
theorem d_WP_edgeOf_9 : decode b_WP_edgeOf 9 = .ok (.iload_n 2, 1) := by decide +kernel
theorem d_WP_edgeOf_10 : decode b_WP_edgeOf 10 = .ok (.ior, 1) := by decide +kernel
theorem d_WP_edgeOf_11 : decode b_WP_edgeOf 11 = .ok (.ireturn, 1) := by decide +kernel
set_option maxRecDepth 100000 in
set_option maxHeartbeats 4000000 in
theorem S_WP_edgeOf_0 {G : Gc} {M : Mc} {Q : State → Prop} {K : Option Value → Hp → Prop} (hG : gok G) (hM : mok G M r_WP_edgeOf Q K) (v0 : Int32) (v1 : Int32) (v2 : Int32) (h : Hp) (F : K (some (.int (((v0 <<< (14 &&& 31)) ||| (v1 <<< (12 &&& 31))) ||| v2))) h) : X G M Q 0 [(0, .int v0), (1, .int v1), (2, .int v2)] [] h := by
  refine x_iload_n hM d_WP_edgeOf_0 rfl 0 rfl ?_
  refine x_bipush (v := 14) hM d_WP_edgeOf_1 (by decide) ?_
  refine x_ishl hM d_WP_edgeOf_3 ?_
  refine x_iload_n hM d_WP_edgeOf_4 rfl 1 rfl ?_
  refine x_bipush (v := 12) hM d_WP_edgeOf_5 (by decide) ?_
  refine x_ishl hM d_WP_edgeOf_7 ?_
  refine x_ior hM d_WP_edgeOf_8 ?_
  refine x_iload_n hM d_WP_edgeOf_9 rfl 2 rfl ?_
  refine x_ior hM d_WP_edgeOf_10 ?_
  exact x_ireturn hM d_WP_edgeOf_11 rfl F
theorem d_WP_marksFor_0 : decode b_WP_marksFor 0 = .ok (.aload_n 0, 1) := by decide +kernel
theorem d_WP_marksFor_1 : decode b_WP_marksFor 1 = .ok (.arraylength, 1) := by decide +kernel
theorem d_WP_marksFor_2 : decode b_WP_marksFor 2 = .ok (.iload_n 1, 1) := by decide +kernel
theorem d_WP_marksFor_3 : decode b_WP_marksFor 3 = .ok (.if_icmp .lt 7, 3) := by decide +kernel
theorem d_WP_marksFor_6 : decode b_WP_marksFor 6 = .ok (.aload_n 0, 1) := by decide +kernel
theorem d_WP_marksFor_7 : decode b_WP_marksFor 7 = .ok (.goto 9, 3) := by decide +kernel
theorem d_WP_marksFor_10 : decode b_WP_marksFor 10 = .ok (.iload_n 1, 1) := by decide +kernel
theorem d_WP_marksFor_11 : decode b_WP_marksFor 11 = .ok (.invokestatic 327, 3) := by decide +kernel
theorem d_WP_marksFor_14 : decode b_WP_marksFor 14 = .ok (.newarray .boolean, 2) := by decide +kernel
theorem d_WP_marksFor_16 : decode b_WP_marksFor 16 = .ok (.areturn, 1) := by decide +kernel
set_option maxRecDepth 100000 in
set_option maxHeartbeats 4000000 in
theorem S_WP_marksFor_0 {G : Gc} {M : Mc} {Q : State → Prop} {K : Option Value → Hp → Prop} (hG : gok G) (hM : mok G M r_WP_marksFor Q K) (v0 : Nat) (v1 : Int32) (h : Hp) (F : kT h v0 = 51 ∧ (((nI (kN h v0)) < v1 → (sem G r_WP_roomFor [.int v1] h (fun u2 h1 => ∃ x3 : Int32, u2 = some (.int x3) ∧ (¬ x3 < 0 ∧ kX h1 + 1 ≤ gB G + capC ∧ kS h1 + (Int32.toNatClampNeg x3) ≤ capS ∧ (∀ h4 : Hp, h4 = wA h1 51 (Int32.toNatClampNeg x3) (Int32.toNatClampNeg x3) → K (some (.ref (kX h1))) h4))))) ∧ (¬ (nI (kN h v0)) < v1 → K (some (.ref v0)) h))) : X G M Q 0 [(0, .ref v0), (1, .int v1)] [] h := by
  refine x_aload_n hM d_WP_marksFor_0 rfl 0 rfl ?_
  obtain ⟨c9, F⟩ := F
  refine x_alen hG hM 51 rfl (Nat.le_of_ble_eq_true rfl) d_WP_marksFor_1 c9 ?_
  refine x_iload_n hM d_WP_marksFor_2 rfl 1 rfl ?_
  refine x_icmp_lt (tgt := 10) hM d_WP_marksFor_3 (by decide) (fun q8 => ?_) (fun q8 => ?_)
  · replace F := F.1 q8
    refine x_iload_n hM d_WP_marksFor_10 rfl 1 rfl ?_
    refine x_callS hG hM (r' := r_WP_roomFor) [.int v1] rfl yk_WP_roomFor ⟨Nat.le_of_ble_eq_true rfl, Nat.le_of_ble_eq_true rfl⟩ w_588 w_589 rfl rfl (Nat.le_of_ble_eq_true rfl) d_WP_marksFor_11 (sem_mono F ?_)
    intro u2 h1 F
    obtain ⟨x3, rfl, F⟩ := F
    obtain ⟨c5, F⟩ := F
    obtain ⟨c6, F⟩ := F
    obtain ⟨c7, F⟩ := F
    obtain ⟨h4, eh4⟩ : ∃ z : Hp, z = wA h1 51 (Int32.toNatClampNeg x3) (Int32.toNatClampNeg x3) := ⟨_, rfl⟩
    replace F := F h4 eh4
    refine x_newZ hG hM (N := (Int32.toNatClampNeg x3)) w_226 d_WP_marksFor_14 c5 rfl c6 c7 ?_
    rw [← eh4]
    clear eh4
    exact x_areturn hM d_WP_marksFor_16 ⟨_, rfl, Or.inr ⟨_, rfl⟩⟩ F
  · replace F := F.2 q8
    refine x_aload_n hM d_WP_marksFor_6 rfl 0 rfl ?_
    refine x_goto (tgt := 16) hM d_WP_marksFor_7 (by decide) ?_
    exact x_areturn hM d_WP_marksFor_16 ⟨_, rfl, Or.inr ⟨_, rfl⟩⟩ F
theorem d_WP_stateOf_0 : decode b_WP_stateOf 0 = .ok (.iload_n 0, 1) := by decide +kernel
theorem d_WP_stateOf_1 : decode b_WP_stateOf 1 = .ok (.sipush 4095, 3) := by decide +kernel
theorem d_WP_stateOf_4 : decode b_WP_stateOf 4 = .ok (.iand, 1) := by decide +kernel
theorem d_WP_stateOf_5 : decode b_WP_stateOf 5 = .ok (.ireturn, 1) := by decide +kernel
set_option maxRecDepth 100000 in
set_option maxHeartbeats 4000000 in
theorem S_WP_stateOf_0 {G : Gc} {M : Mc} {Q : State → Prop} {K : Option Value → Hp → Prop} (hG : gok G) (hM : mok G M r_WP_stateOf Q K) (v0 : Int32) (h : Hp) (F : K (some (.int (v0 &&& 4095))) h) : X G M Q 0 [(0, .int v0)] [] h := by
  refine x_iload_n hM d_WP_stateOf_0 rfl 0 rfl ?_
  refine x_sipush (v := 4095) hM d_WP_stateOf_1 (by decide) ?_
  refine x_iand hM d_WP_stateOf_4 ?_
  exact x_ireturn hM d_WP_stateOf_5 rfl F
theorem d_WP_actOf_0 : decode b_WP_actOf 0 = .ok (.iload_n 0, 1) := by decide +kernel
theorem d_WP_actOf_1 : decode b_WP_actOf 1 = .ok (.bipush 14, 2) := by decide +kernel
theorem d_WP_actOf_3 : decode b_WP_actOf 3 = .ok (.ishr, 1) := by decide +kernel
theorem d_WP_actOf_4 : decode b_WP_actOf 4 = .ok (.ireturn, 1) := by decide +kernel
set_option maxRecDepth 100000 in
set_option maxHeartbeats 4000000 in
theorem S_WP_actOf_0 {G : Gc} {M : Mc} {Q : State → Prop} {K : Option Value → Hp → Prop} (hG : gok G) (hM : mok G M r_WP_actOf Q K) (v0 : Int32) (h : Hp) (F : K (some (.int (v0 >>> (14 &&& 31)))) h) : X G M Q 0 [(0, .int v0)] [] h := by
  refine x_iload_n hM d_WP_actOf_0 rfl 0 rfl ?_
  refine x_bipush (v := 14) hM d_WP_actOf_1 (by decide) ?_
  refine x_ishr hM d_WP_actOf_3 ?_
  exact x_ireturn hM d_WP_actOf_4 rfl F
theorem d_WP_outcomeOf_0 : decode b_WP_outcomeOf 0 = .ok (.iload_n 0, 1) := by decide +kernel
theorem d_WP_outcomeOf_1 : decode b_WP_outcomeOf 1 = .ok (.bipush 12, 2) := by decide +kernel
theorem d_WP_outcomeOf_3 : decode b_WP_outcomeOf 3 = .ok (.ishr, 1) := by decide +kernel
theorem d_WP_outcomeOf_4 : decode b_WP_outcomeOf 4 = .ok (.iconst 3, 1) := by decide +kernel
theorem d_WP_outcomeOf_5 : decode b_WP_outcomeOf 5 = .ok (.iand, 1) := by decide +kernel
theorem d_WP_outcomeOf_6 : decode b_WP_outcomeOf 6 = .ok (.ireturn, 1) := by decide +kernel
set_option maxRecDepth 100000 in
set_option maxHeartbeats 4000000 in
theorem S_WP_outcomeOf_0 {G : Gc} {M : Mc} {Q : State → Prop} {K : Option Value → Hp → Prop} (hG : gok G) (hM : mok G M r_WP_outcomeOf Q K) (v0 : Int32) (h : Hp) (F : K (some (.int ((v0 >>> (12 &&& 31)) &&& 3))) h) : X G M Q 0 [(0, .int v0)] [] h := by
  refine x_iload_n hM d_WP_outcomeOf_0 rfl 0 rfl ?_
  refine x_bipush (v := 12) hM d_WP_outcomeOf_1 (by decide) ?_
  refine x_ishr hM d_WP_outcomeOf_3 ?_
  refine x_iconst (v := 3) hM d_WP_outcomeOf_4 (by decide) ?_
  refine x_iand hM d_WP_outcomeOf_5 ?_
  exact x_ireturn hM d_WP_outcomeOf_6 rfl F
