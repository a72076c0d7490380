set_option maxRecDepth 100000 in
set_option maxHeartbeats 4000000 in
theorem T_Ch_inWorld_0 {G : Gc} {M : Mc} {Q : State → Prop} {ad0 : Ro → Nat} {K : (Ro → Nat) → Option Value → Rs → Prop} (hG : gok G) (hM : mok G M r_Ch_inWorld Q (KV G [] ad0 K))  (ρ : Rs) (F : ∀ ρ1 : Rs, ρ1 = pL ρ (4, 0, 0) 0 ((lR ρ (4, 0, 0) 0) + 1) → (∀ ρ2 : Rs, ρ2 = pL ρ1 (4, 0, 0) 1 (lR ρ1 (4, 0, 0) 0) → (∀ ad, K ad none ρ2))) : Y G [] ad0 M Q 0 (fun ad => [(0, .ref (ad (4, 0, 0)))]) (fun ad => []) ρ := by
  intro ad h hSt V
  show X G M Q 0 [(0, .ref (ad (4, 0, 0)))] [] h
  refine x_aload_n hM d_Ch_inWorld_0 rfl 0 rfl ?_
  refine x_dup hM d_Ch_inWorld_1 rfl ?_
  refine y_getl hG hM V ck_Ch 0 (Nat.le_of_ble_eq_true rfl) rfl rfl w_233 rfl d_Ch_inWorld_2 (4, 0, 0) rfl rfl ?_
  refine x_lconst (v := 1) hM d_Ch_inWorld_5 (by decide) ?_
  refine x_ladd hM d_Ch_inWorld_6 ?_
  obtain ⟨ρ1, eρ1⟩ : ∃ z : Rs, z = pL ρ (4, 0, 0) 0 ((lR ρ (4, 0, 0) 0) + 1) := ⟨_, rfl⟩
  replace F := F ρ1 eρ1
  refine y_putl hG hM V ck_Ch 0 (Nat.le_of_ble_eq_true rfl) rfl rfl w_233 rfl d_Ch_inWorld_7 rfl (4, 0, 0) rfl rfl (fun h V => ?_)
  rw [← eρ1] at V
  clear eρ1
  refine x_aload_n hM d_Ch_inWorld_10 rfl 0 rfl ?_
  refine x_aload_n hM d_Ch_inWorld_11 rfl 0 rfl ?_
  refine y_getl hG hM V ck_Ch 0 (Nat.le_of_ble_eq_true rfl) rfl rfl w_233 rfl d_Ch_inWorld_12 (4, 0, 0) rfl rfl ?_
  obtain ⟨ρ2, eρ2⟩ : ∃ z : Rs, z = pL ρ1 (4, 0, 0) 1 (lR ρ1 (4, 0, 0) 0) := ⟨_, rfl⟩
  replace F := F ρ2 eρ2
  refine y_putl hG hM V ck_Ch 1 (Nat.le_of_ble_eq_true rfl) rfl rfl w_235 rfl d_Ch_inWorld_15 rfl (4, 0, 0) rfl rfl (fun h V => ?_)
  rw [← eρ2] at V
  clear eρ2
  exact x_return hM d_Ch_inWorld_18 rfl (y_end V hSt (F _))
set_option maxRecDepth 100000 in
set_option maxHeartbeats 4000000 in
theorem T_Ch_inStart_0 {G : Gc} {M : Mc} {Q : State → Prop} {ad0 : Ro → Nat} {K : (Ro → Nat) → Option Value → Rs → Prop} (hG : gok G) (hM : mok G M r_Ch_inStart Q (KV G [] ad0 K))  (ρ : Rs) (F : ∀ ρ1 : Rs, ρ1 = pL ρ (4, 0, 0) 0 ((lR ρ (4, 0, 0) 0) + 1) → (∀ ρ2 : Rs, ρ2 = pL ρ1 (4, 0, 0) 2 (lR ρ1 (4, 0, 0) 0) → (∀ ad, K ad none ρ2))) : Y G [] ad0 M Q 0 (fun ad => [(0, .ref (ad (4, 0, 0)))]) (fun ad => []) ρ := by
  intro ad h hSt V
  show X G M Q 0 [(0, .ref (ad (4, 0, 0)))] [] h
  refine x_aload_n hM d_Ch_inStart_0 rfl 0 rfl ?_
  refine x_dup hM d_Ch_inStart_1 rfl ?_
  refine y_getl hG hM V ck_Ch 0 (Nat.le_of_ble_eq_true rfl) rfl rfl w_233 rfl d_Ch_inStart_2 (4, 0, 0) rfl rfl ?_
  refine x_lconst (v := 1) hM d_Ch_inStart_5 (by decide) ?_
  refine x_ladd hM d_Ch_inStart_6 ?_
  obtain ⟨ρ1, eρ1⟩ : ∃ z : Rs, z = pL ρ (4, 0, 0) 0 ((lR ρ (4, 0, 0) 0) + 1) := ⟨_, rfl⟩
  replace F := F ρ1 eρ1
  refine y_putl hG hM V ck_Ch 0 (Nat.le_of_ble_eq_true rfl) rfl rfl w_233 rfl d_Ch_inStart_7 rfl (4, 0, 0) rfl rfl (fun h V => ?_)
  rw [← eρ1] at V
  clear eρ1
  refine x_aload_n hM d_Ch_inStart_10 rfl 0 rfl ?_
  refine x_aload_n hM d_Ch_inStart_11 rfl 0 rfl ?_
  refine y_getl hG hM V ck_Ch 0 (Nat.le_of_ble_eq_true rfl) rfl rfl w_233 rfl d_Ch_inStart_12 (4, 0, 0) rfl rfl ?_
  obtain ⟨ρ2, eρ2⟩ : ∃ z : Rs, z = pL ρ1 (4, 0, 0) 2 (lR ρ1 (4, 0, 0) 0) := ⟨_, rfl⟩
  replace F := F ρ2 eρ2
  refine y_putl hG hM V ck_Ch 2 (Nat.le_of_ble_eq_true rfl) rfl rfl w_237 rfl d_Ch_inStart_15 rfl (4, 0, 0) rfl rfl (fun h V => ?_)
  rw [← eρ2] at V
  clear eρ2
  exact x_return hM d_Ch_inStart_18 rfl (y_end V hSt (F _))
set_option maxRecDepth 100000 in
set_option maxHeartbeats 4000000 in
theorem T_Ch_inAim_0 {G : Gc} {M : Mc} {Q : State → Prop} {ad0 : Ro → Nat} {K : (Ro → Nat) → Option Value → Rs → Prop} (hG : gok G) (hM : mok G M r_Ch_inAim Q (KV G [] ad0 K))  (ρ : Rs) (F : ∀ ρ1 : Rs, ρ1 = pL ρ (4, 0, 0) 0 ((lR ρ (4, 0, 0) 0) + 1) → (∀ ρ2 : Rs, ρ2 = pL ρ1 (4, 0, 0) 3 (lR ρ1 (4, 0, 0) 0) → (∀ ad, K ad none ρ2))) : Y G [] ad0 M Q 0 (fun ad => [(0, .ref (ad (4, 0, 0)))]) (fun ad => []) ρ := by
  intro ad h hSt V
  show X G M Q 0 [(0, .ref (ad (4, 0, 0)))] [] h
  refine x_aload_n hM d_Ch_inAim_0 rfl 0 rfl ?_
  refine x_dup hM d_Ch_inAim_1 rfl ?_
  refine y_getl hG hM V ck_Ch 0 (Nat.le_of_ble_eq_true rfl) rfl rfl w_233 rfl d_Ch_inAim_2 (4, 0, 0) rfl rfl ?_
  refine x_lconst (v := 1) hM d_Ch_inAim_5 (by decide) ?_
  refine x_ladd hM d_Ch_inAim_6 ?_
  obtain ⟨ρ1, eρ1⟩ : ∃ z : Rs, z = pL ρ (4, 0, 0) 0 ((lR ρ (4, 0, 0) 0) + 1) := ⟨_, rfl⟩
  replace F := F ρ1 eρ1
  refine y_putl hG hM V ck_Ch 0 (Nat.le_of_ble_eq_true rfl) rfl rfl w_233 rfl d_Ch_inAim_7 rfl (4, 0, 0) rfl rfl (fun h V => ?_)
  rw [← eρ1] at V
  clear eρ1
  refine x_aload_n hM d_Ch_inAim_10 rfl 0 rfl ?_
  refine x_aload_n hM d_Ch_inAim_11 rfl 0 rfl ?_
  refine y_getl hG hM V ck_Ch 0 (Nat.le_of_ble_eq_true rfl) rfl rfl w_233 rfl d_Ch_inAim_12 (4, 0, 0) rfl rfl ?_
  obtain ⟨ρ2, eρ2⟩ : ∃ z : Rs, z = pL ρ1 (4, 0, 0) 3 (lR ρ1 (4, 0, 0) 0) := ⟨_, rfl⟩
  replace F := F ρ2 eρ2
  refine y_putl hG hM V ck_Ch 3 (Nat.le_of_ble_eq_true rfl) rfl rfl w_239 rfl d_Ch_inAim_15 rfl (4, 0, 0) rfl rfl (fun h V => ?_)
  rw [← eρ2] at V
  clear eρ2
  exact x_return hM d_Ch_inAim_18 rfl (y_end V hSt (F _))
set_option maxRecDepth 100000 in
set_option maxHeartbeats 4000000 in
theorem T_Ch_inCover_0 {G : Gc} {M : Mc} {Q : State → Prop} {ad0 : Ro → Nat} {K : (Ro → Nat) → Option Value → Rs → Prop} (hG : gok G) (hM : mok G M r_Ch_inCover Q (KV G [] ad0 K))  (ρ : Rs) (F : ∀ ρ1 : Rs, ρ1 = pL ρ (4, 0, 0) 0 ((lR ρ (4, 0, 0) 0) + 1) → (∀ ad, K ad none ρ1)) : Y G [] ad0 M Q 0 (fun ad => [(0, .ref (ad (4, 0, 0)))]) (fun ad => []) ρ := by
  intro ad h hSt V
  show X G M Q 0 [(0, .ref (ad (4, 0, 0)))] [] h
  refine x_aload_n hM d_Ch_inCover_0 rfl 0 rfl ?_
  refine x_dup hM d_Ch_inCover_1 rfl ?_
  refine y_getl hG hM V ck_Ch 0 (Nat.le_of_ble_eq_true rfl) rfl rfl w_233 rfl d_Ch_inCover_2 (4, 0, 0) rfl rfl ?_
  refine x_lconst (v := 1) hM d_Ch_inCover_5 (by decide) ?_
  refine x_ladd hM d_Ch_inCover_6 ?_
  obtain ⟨ρ1, eρ1⟩ : ∃ z : Rs, z = pL ρ (4, 0, 0) 0 ((lR ρ (4, 0, 0) 0) + 1) := ⟨_, rfl⟩
  replace F := F ρ1 eρ1
  refine y_putl hG hM V ck_Ch 0 (Nat.le_of_ble_eq_true rfl) rfl rfl w_233 rfl d_Ch_inCover_7 rfl (4, 0, 0) rfl rfl (fun h V => ?_)
  rw [← eρ1] at V
  clear eρ1
  exact x_return hM d_Ch_inCover_10 rfl (y_end V hSt (F _))
