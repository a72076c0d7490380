set_option maxRecDepth 100000 in
set_option maxHeartbeats 4000000 in
theorem T_WP_valueIn_0 {G : Gc} {M : Mc} {Q : State → Prop} {ad0 : Ro → Nat} {K : (Ro → Nat) → Option Value → Rs → Prop} (hG : gok G) (hM : mok G M r_WP_valueIn Q (KV G [] ad0 K)) (v0 : Int32) (v1 : Int32) (ρ : Rs) (F : ∀ ad, K ad (some (.int ((v0 >>> ((2 * v1) &&& 31)) &&& 3))) ρ) : Y G [] ad0 M Q 0 (fun ad => [(0, .int v0), (1, .int v1)]) (fun ad => []) ρ := by
  intro ad h hSt V
  show X G M Q 0 [(0, .int v0), (1, .int v1)] [] h
  refine x_iload_n hM d_WP_valueIn_0 rfl 0 rfl ?_
  refine x_iconst (v := 2) hM d_WP_valueIn_1 (by decide) ?_
  refine x_iload_n hM d_WP_valueIn_2 rfl 1 rfl ?_
  refine x_imul hM d_WP_valueIn_3 ?_
  refine x_ishr hM d_WP_valueIn_4 ?_
  refine x_iconst (v := 3) hM d_WP_valueIn_5 (by decide) ?_
  refine x_iand hM d_WP_valueIn_6 ?_
  exact x_ireturn hM d_WP_valueIn_7 rfl (y_end V hSt (F _))
set_option maxRecDepth 100000 in
set_option maxHeartbeats 4000000 in
theorem T_WP_roomFor_0 {G : Gc} {M : Mc} {Q : State → Prop} {ad0 : Ro → Nat} {K : (Ro → Nat) → Option Value → Rs → Prop} (hG : gok G) (hM : mok G M r_WP_roomFor Q (KV G [] ad0 K)) (v0 : Int32) (ρ : Rs) (F : Y G [] ad0 M Q 5 (fun ad => [(0, .int v0), (1, .int 8), (2, .int 0)]) (fun ad => []) ρ) : Y G [] ad0 M Q 0 (fun ad => [(0, .int v0)]) (fun ad => []) ρ := by
  intro ad h hSt V
  show X G M Q 0 [(0, .int v0)] [] h
  refine x_bipush (v := 8) hM d_WP_roomFor_0 (by decide) ?_
  refine x_istore_n (lv2 := [(1, .int 8), (0, .int v0)]) hM d_WP_roomFor_2 rfl (Nat.le_of_ble_eq_true rfl) rfl ?_
  refine x_iconst (v := 0) hM d_WP_roomFor_3 (by decide) ?_
  refine x_istore_n (lv2 := [(2, .int 0), (1, .int 8), (0, .int v0)]) hM d_WP_roomFor_4 rfl (Nat.le_of_ble_eq_true rfl) rfl ?_
  refine x_sub [2, 1, 0] rfl ?_
  exact F _ _ hSt V
set_option maxRecDepth 100000 in
set_option maxHeartbeats 4000000 in
theorem T_WP_roomFor_5 {G : Gc} {M : Mc} {Q : State → Prop} {ad0 : Ro → Nat} {K : (Ro → Nat) → Option Value → Rs → Prop} (hG : gok G) (hM : mok G M r_WP_roomFor Q (KV G [] ad0 K)) (v0 : Int32) (v1 : Int32) (v2 : Int32) (ρ : Rs) (F : (3 ≤ v2 → (∀ ad, K ad (some (.int v1)) ρ)) ∧ (¬ 3 ≤ v2 → ((v0 ≤ v1 → (∀ ad, K ad (some (.int v1)) ρ)) ∧ (¬ v0 ≤ v1 → (Y G [] ad0 M Q 5 (fun ad => [(0, .int v0), (1, .int (v1 * 8)), (2, .int (v2 + 1))]) (fun ad => []) ρ))))) : Y G [] ad0 M Q 5 (fun ad => [(0, .int v0), (1, .int v1), (2, .int v2)]) (fun ad => []) ρ := by
  intro ad h hSt V
  show X G M Q 5 [(0, .int v0), (1, .int v1), (2, .int v2)] [] h
  refine x_iload_n hM d_WP_roomFor_5 rfl 2 rfl ?_
  refine x_iconst (v := 3) hM d_WP_roomFor_6 (by decide) ?_
  refine x_icmp_ge (tgt := 26) hM d_WP_roomFor_7 (by decide) (fun q2 => ?_) (fun q2 => ?_)
  · replace F := F.1 q2
    refine x_iload_n hM d_WP_roomFor_26 rfl 1 rfl ?_
    exact x_ireturn hM d_WP_roomFor_27 rfl (y_end V hSt (F _))
  · replace F := F.2 q2
    refine x_iload_n hM d_WP_roomFor_10 rfl 1 rfl ?_
    refine x_iload_n hM d_WP_roomFor_11 rfl 0 rfl ?_
    refine x_icmp_ge (tgt := 26) hM d_WP_roomFor_12 (by decide) (fun q1 => ?_) (fun q1 => ?_)
    · replace F := F.1 q1
      refine x_iload_n hM d_WP_roomFor_26 rfl 1 rfl ?_
      exact x_ireturn hM d_WP_roomFor_27 rfl (y_end V hSt (F _))
    · replace F := F.2 q1
      refine x_iload_n hM d_WP_roomFor_15 rfl 1 rfl ?_
      refine x_bipush (v := 8) hM d_WP_roomFor_16 (by decide) ?_
      refine x_imul hM d_WP_roomFor_18 ?_
      refine x_istore_n (lv2 := [(1, .int (v1 * 8)), (0, .int v0), (2, .int v2)]) hM d_WP_roomFor_19 rfl (Nat.le_of_ble_eq_true rfl) rfl ?_
      refine x_iinc (v := (v2 + 1)) (lv2 := [(2, .int (v2 + 1)), (1, .int (v1 * 8)), (0, .int v0)]) hM d_WP_roomFor_20 (j := 2) rfl rfl (Nat.le_of_ble_eq_true rfl) rfl ?_
      refine x_goto (tgt := 5) hM d_WP_roomFor_23 (by decide) ?_
      refine x_sub [2, 1, 0] rfl ?_
      exact F _ _ hSt V
set_option maxRecDepth 100000 in
set_option maxHeartbeats 4000000 in
theorem T_WP_edgeOf_0 {G : Gc} {M : Mc} {Q : State → Prop} {ad0 : Ro → Nat} {K : (Ro → Nat) → Option Value → Rs → Prop} (hG : gok G) (hM : mok G M r_WP_edgeOf Q (KV G [] ad0 K)) (v0 : Int32) (v1 : Int32) (v2 : Int32) (ρ : Rs) (F : ∀ ad, K ad (some (.int (((v0 <<< (14 &&& 31)) ||| (v1 <<< (12 &&& 31))) ||| v2))) ρ) : Y G [] ad0 M Q 0 (fun ad => [(0, .int v0), (1, .int v1), (2, .int v2)]) (fun ad => []) ρ := by
  intro ad h hSt V
  show X G M Q 0 [(0, .int v0), (1, .int v1), (2, .int v2)] [] h
  refine x_iload_n hM d_WP_edgeOf_0 rfl 0 rfl ?_
  refine x_bipush (v := 14) hM d_WP_edgeOf_1 (by decide) ?_
  refine x_ishl hM d_WP_edgeOf_3 ?_
  refine x_iload_n hM d_WP_edgeOf_4 rfl 1 rfl ?_
  refine x_bipush (v := 12) hM d_WP_edgeOf_5 (by decide) ?_
  refine x_ishl hM d_WP_edgeOf_7 ?_
  refine x_ior hM d_WP_edgeOf_8 ?_
  refine x_iload_n hM d_WP_edgeOf_9 rfl 2 rfl ?_
  refine x_ior hM d_WP_edgeOf_10 ?_
  exact x_ireturn hM d_WP_edgeOf_11 rfl (y_end V hSt (F _))
set_option maxRecDepth 100000 in
set_option maxHeartbeats 4000000 in
theorem T_WP_stateOf_0 {G : Gc} {M : Mc} {Q : State → Prop} {ad0 : Ro → Nat} {K : (Ro → Nat) → Option Value → Rs → Prop} (hG : gok G) (hM : mok G M r_WP_stateOf Q (KV G [] ad0 K)) (v0 : Int32) (ρ : Rs) (F : ∀ ad, K ad (some (.int (v0 &&& 4095))) ρ) : Y G [] ad0 M Q 0 (fun ad => [(0, .int v0)]) (fun ad => []) ρ := by
  intro ad h hSt V
  show X G M Q 0 [(0, .int v0)] [] h
  refine x_iload_n hM d_WP_stateOf_0 rfl 0 rfl ?_
  refine x_sipush (v := 4095) hM d_WP_stateOf_1 (by decide) ?_
  refine x_iand hM d_WP_stateOf_4 ?_
  exact x_ireturn hM d_WP_stateOf_5 rfl (y_end V hSt (F _))
set_option maxRecDepth 100000 in
set_option maxHeartbeats 4000000 in
theorem T_WP_actOf_0 {G : Gc} {M : Mc} {Q : State → Prop} {ad0 : Ro → Nat} {K : (Ro → Nat) → Option Value → Rs → Prop} (hG : gok G) (hM : mok G M r_WP_actOf Q (KV G [] ad0 K)) (v0 : Int32) (ρ : Rs) (F : ∀ ad, K ad (some (.int (v0 >>> (14 &&& 31)))) ρ) : Y G [] ad0 M Q 0 (fun ad => [(0, .int v0)]) (fun ad => []) ρ := by
  intro ad h hSt V
  show X G M Q 0 [(0, .int v0)] [] h
  refine x_iload_n hM d_WP_actOf_0 rfl 0 rfl ?_
  refine x_bipush (v := 14) hM d_WP_actOf_1 (by decide) ?_
  refine x_ishr hM d_WP_actOf_3 ?_
  exact x_ireturn hM d_WP_actOf_4 rfl (y_end V hSt (F _))
set_option maxRecDepth 100000 in
set_option maxHeartbeats 4000000 in
theorem T_WP_outcomeOf_0 {G : Gc} {M : Mc} {Q : State → Prop} {ad0 : Ro → Nat} {K : (Ro → Nat) → Option Value → Rs → Prop} (hG : gok G) (hM : mok G M r_WP_outcomeOf Q (KV G [] ad0 K)) (v0 : Int32) (ρ : Rs) (F : ∀ ad, K ad (some (.int ((v0 >>> (12 &&& 31)) &&& 3))) ρ) : Y G [] ad0 M Q 0 (fun ad => [(0, .int v0)]) (fun ad => []) ρ := by
  intro ad h hSt V
  show X G M Q 0 [(0, .int v0)] [] h
  refine x_iload_n hM d_WP_outcomeOf_0 rfl 0 rfl ?_
  refine x_bipush (v := 12) hM d_WP_outcomeOf_1 (by decide) ?_
  refine x_ishr hM d_WP_outcomeOf_3 ?_
  refine x_iconst (v := 3) hM d_WP_outcomeOf_4 (by decide) ?_
  refine x_iand hM d_WP_outcomeOf_5 ?_
  exact x_ireturn hM d_WP_outcomeOf_6 rfl (y_end V hSt (F _))
