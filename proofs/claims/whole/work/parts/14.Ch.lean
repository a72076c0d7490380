theorem d_Ch_init_0 : decode b_Ch_init 0 = .ok (.aload_n 0, 1) := by decide +kernel
theorem d_Ch_init_1 : decode b_Ch_init 1 = .ok (.invokespecial 1, 3) := by decide +kernel
theorem d_Ch_init_4 : decode b_Ch_init 4 = .ok (.aload_n 0, 1) := by decide +kernel
theorem d_Ch_init_5 : decode b_Ch_init 5 = .ok (.lconst 1, 1) := by decide +kernel
theorem d_Ch_init_6 : decode b_Ch_init 6 = .ok (.putfield 7, 3) := by decide +kernel
theorem d_Ch_init_9 : decode b_Ch_init 9 = .ok (.aload_n 0, 1) := by decide +kernel
theorem d_Ch_init_10 : decode b_Ch_init 10 = .ok (.lconst 1, 1) := by decide +kernel
theorem d_Ch_init_11 : decode b_Ch_init 11 = .ok (.putfield 13, 3) := by decide +kernel
theorem d_Ch_init_14 : decode b_Ch_init 14 = .ok (.aload_n 0, 1) := by decide +kernel
theorem d_Ch_init_15 : decode b_Ch_init 15 = .ok (.lconst 1, 1) := by decide +kernel
theorem d_Ch_init_16 : decode b_Ch_init 16 = .ok (.putfield 16, 3) := by decide +kernel
theorem d_Ch_init_19 : decode b_Ch_init 19 = .ok (.aload_n 0, 1) := by decide +kernel
theorem d_Ch_init_20 : decode b_Ch_init 20 = .ok (.lconst 1, 1) := by decide +kernel
theorem d_Ch_init_21 : decode b_Ch_init 21 = .ok (.putfield 19, 3) := by decide +kernel
theorem d_Ch_init_24 : decode b_Ch_init 24 = .ok (.return_, 1) := by decide +kernel
set_option maxRecDepth 100000 in
set_option maxHeartbeats 4000000 in
theorem S_Ch_init_0 {G : Gc} {M : Mc} {Q : State → Prop} {K : Option Value → Hp → Prop} (hG : gok G) (hM : mok G M r_Ch_init Q K) (v0 : Nat) (h : Hp) (F : kT h v0 = 7 ∧ (∀ h1 : Hp, h1 = wL h v0 0 1 → (kT h1 v0 = 7 ∧ (∀ h2 : Hp, h2 = wL h1 v0 1 1 → (kT h2 v0 = 7 ∧ (∀ h3 : Hp, h3 = wL h2 v0 2 1 → (kT h3 v0 = 7 ∧ (∀ h4 : Hp, h4 = wL h3 v0 3 1 → K none h4)))))))) : X G M Q 0 [(0, .ref v0)] [] h := by
  refine x_aload_n hM d_Ch_init_0 rfl 0 rfl ?_
  refine x_objInit hG hM rfl w_232 w_22 w_objcode d_Ch_init_1 (Nat.le_of_ble_eq_true rfl) (Nat.le_of_ble_eq_true rfl) (Nat.le_of_ble_eq_true rfl) ?_
  refine x_aload_n hM d_Ch_init_4 rfl 0 rfl ?_
  refine x_lconst (v := 1) hM d_Ch_init_5 (by decide) ?_
  obtain ⟨c8, F⟩ := F
  obtain ⟨h1, eh1⟩ : ∃ z : Hp, z = wL h v0 0 1 := ⟨_, rfl⟩
  replace F := F h1 eh1
  refine x_putl hG hM ck_Ch 0 (Nat.le_of_ble_eq_true rfl) rfl rfl w_233 rfl d_Ch_init_6 (Or.inl rfl) c8 ?_
  rw [← eh1]
  clear eh1
  refine x_aload_n hM d_Ch_init_9 rfl 0 rfl ?_
  refine x_lconst (v := 1) hM d_Ch_init_10 (by decide) ?_
  obtain ⟨c7, F⟩ := F
  obtain ⟨h2, eh2⟩ : ∃ z : Hp, z = wL h1 v0 1 1 := ⟨_, rfl⟩
  replace F := F h2 eh2
  refine x_putl hG hM ck_Ch 1 (Nat.le_of_ble_eq_true rfl) rfl rfl w_235 rfl d_Ch_init_11 (Or.inl rfl) c7 ?_
  rw [← eh2]
  clear eh2
  refine x_aload_n hM d_Ch_init_14 rfl 0 rfl ?_
  refine x_lconst (v := 1) hM d_Ch_init_15 (by decide) ?_
  obtain ⟨c6, F⟩ := F
  obtain ⟨h3, eh3⟩ : ∃ z : Hp, z = wL h2 v0 2 1 := ⟨_, rfl⟩
  replace F := F h3 eh3
  refine x_putl hG hM ck_Ch 2 (Nat.le_of_ble_eq_true rfl) rfl rfl w_237 rfl d_Ch_init_16 (Or.inl rfl) c6 ?_
  rw [← eh3]
  clear eh3
  refine x_aload_n hM d_Ch_init_19 rfl 0 rfl ?_
  refine x_lconst (v := 1) hM d_Ch_init_20 (by decide) ?_
  obtain ⟨c5, F⟩ := F
  obtain ⟨h4, eh4⟩ : ∃ z : Hp, z = wL h3 v0 3 1 := ⟨_, rfl⟩
  replace F := F h4 eh4
  refine x_putl hG hM ck_Ch 3 (Nat.le_of_ble_eq_true rfl) rfl rfl w_239 rfl d_Ch_init_21 (Or.inl rfl) c5 ?_
  rw [← eh4]
  clear eh4
  exact x_return hM d_Ch_init_24 rfl F
theorem d_Ch_inWorld_0 : decode b_Ch_inWorld 0 = .ok (.aload_n 0, 1) := by decide +kernel
theorem d_Ch_inWorld_1 : decode b_Ch_inWorld 1 = .ok (.dup, 1) := by decide +kernel
theorem d_Ch_inWorld_2 : decode b_Ch_inWorld 2 = .ok (.getfield 7, 3) := by decide +kernel
theorem d_Ch_inWorld_5 : decode b_Ch_inWorld 5 = .ok (.lconst 1, 1) := by decide +kernel
theorem d_Ch_inWorld_6 : decode b_Ch_inWorld 6 = .ok (.ladd, 1) := by decide +kernel
theorem d_Ch_inWorld_7 : decode b_Ch_inWorld 7 = .ok (.putfield 7, 3) := by decide +kernel
theorem d_Ch_inWorld_10 : decode b_Ch_inWorld 10 = .ok (.aload_n 0, 1) := by decide +kernel
theorem d_Ch_inWorld_11 : decode b_Ch_inWorld 11 = .ok (.aload_n 0, 1) := by decide +kernel
theorem d_Ch_inWorld_12 : decode b_Ch_inWorld 12 = .ok (.getfield 7, 3) := by decide +kernel
theorem d_Ch_inWorld_15 : decode b_Ch_inWorld 15 = .ok (.putfield 13, 3) := by decide +kernel
theorem d_Ch_inWorld_18 : decode b_Ch_inWorld 18 = .ok (.return_, 1) := by decide +kernel
set_option maxRecDepth 100000 in
set_option maxHeartbeats 4000000 in
theorem S_Ch_inWorld_0 {G : Gc} {M : Mc} {Q : State → Prop} {K : Option Value → Hp → Prop} (hG : gok G) (hM : mok G M r_Ch_inWorld Q K) (v0 : Nat) (h : Hp) (F : kT h v0 = 7 ∧ (kT h v0 = 7 ∧ (∀ h1 : Hp, h1 = wL h v0 0 ((kL h v0 0) + 1) → (kT h1 v0 = 7 ∧ (kT h1 v0 = 7 ∧ (∀ h2 : Hp, h2 = wL h1 v0 1 (kL h1 v0 0) → K none h2)))))) : X G M Q 0 [(0, .ref v0)] [] h := by
  refine x_aload_n hM d_Ch_inWorld_0 rfl 0 rfl ?_
  refine x_dup hM d_Ch_inWorld_1 rfl ?_
  obtain ⟨c6, F⟩ := F
  refine x_getl hG hM ck_Ch 0 (Nat.le_of_ble_eq_true rfl) rfl rfl w_233 rfl d_Ch_inWorld_2 c6 ?_
  refine x_lconst (v := 1) hM d_Ch_inWorld_5 (by decide) ?_
  refine x_ladd hM d_Ch_inWorld_6 ?_
  obtain ⟨c5, F⟩ := F
  obtain ⟨h1, eh1⟩ : ∃ z : Hp, z = wL h v0 0 ((kL h v0 0) + 1) := ⟨_, rfl⟩
  replace F := F h1 eh1
  refine x_putl hG hM ck_Ch 0 (Nat.le_of_ble_eq_true rfl) rfl rfl w_233 rfl d_Ch_inWorld_7 (Or.inl rfl) c5 ?_
  rw [← eh1]
  clear eh1
  refine x_aload_n hM d_Ch_inWorld_10 rfl 0 rfl ?_
  refine x_aload_n hM d_Ch_inWorld_11 rfl 0 rfl ?_
  obtain ⟨c4, F⟩ := F
  refine x_getl hG hM ck_Ch 0 (Nat.le_of_ble_eq_true rfl) rfl rfl w_233 rfl d_Ch_inWorld_12 c4 ?_
  obtain ⟨c3, F⟩ := F
  obtain ⟨h2, eh2⟩ : ∃ z : Hp, z = wL h1 v0 1 (kL h1 v0 0) := ⟨_, rfl⟩
  replace F := F h2 eh2
  refine x_putl hG hM ck_Ch 1 (Nat.le_of_ble_eq_true rfl) rfl rfl w_235 rfl d_Ch_inWorld_15 (Or.inl rfl) c3 ?_
  rw [← eh2]
  clear eh2
  exact x_return hM d_Ch_inWorld_18 rfl F
theorem d_Ch_inStart_0 : decode b_Ch_inStart 0 = .ok (.aload_n 0, 1) := by decide +kernel
theorem d_Ch_inStart_1 : decode b_Ch_inStart 1 = .ok (.dup, 1) := by decide +kernel
theorem d_Ch_inStart_2 : decode b_Ch_inStart 2 = .ok (.getfield 7, 3) := by decide +kernel
theorem d_Ch_inStart_5 : decode b_Ch_inStart 5 = .ok (.lconst 1, 1) := by decide +kernel
theorem d_Ch_inStart_6 : decode b_Ch_inStart 6 = .ok (.ladd, 1) := by decide +kernel
theorem d_Ch_inStart_7 : decode b_Ch_inStart 7 = .ok (.putfield 7, 3) := by decide +kernel
theorem d_Ch_inStart_10 : decode b_Ch_inStart 10 = .ok (.aload_n 0, 1) := by decide +kernel
theorem d_Ch_inStart_11 : decode b_Ch_inStart 11 = .ok (.aload_n 0, 1) := by decide +kernel
theorem d_Ch_inStart_12 : decode b_Ch_inStart 12 = .ok (.getfield 7, 3) := by decide +kernel
theorem d_Ch_inStart_15 : decode b_Ch_inStart 15 = .ok (.putfield 16, 3) := by decide +kernel
theorem d_Ch_inStart_18 : decode b_Ch_inStart 18 = .ok (.return_, 1) := by decide +kernel
set_option maxRecDepth 100000 in
set_option maxHeartbeats 4000000 in
theorem S_Ch_inStart_0 {G : Gc} {M : Mc} {Q : State → Prop} {K : Option Value → Hp → Prop} (hG : gok G) (hM : mok G M r_Ch_inStart Q K) (v0 : Nat) (h : Hp) (F : kT h v0 = 7 ∧ (kT h v0 = 7 ∧ (∀ h1 : Hp, h1 = wL h v0 0 ((kL h v0 0) + 1) → (kT h1 v0 = 7 ∧ (kT h1 v0 = 7 ∧ (∀ h2 : Hp, h2 = wL h1 v0 2 (kL h1 v0 0) → K none h2)))))) : X G M Q 0 [(0, .ref v0)] [] h := by
  refine x_aload_n hM d_Ch_inStart_0 rfl 0 rfl ?_
  refine x_dup hM d_Ch_inStart_1 rfl ?_
  obtain ⟨c6, F⟩ := F
  refine x_getl hG hM ck_Ch 0 (Nat.le_of_ble_eq_true rfl) rfl rfl w_233 rfl d_Ch_inStart_2 c6 ?_
  refine x_lconst (v := 1) hM d_Ch_inStart_5 (by decide) ?_
  refine x_ladd hM d_Ch_inStart_6 ?_
  obtain ⟨c5, F⟩ := F
  obtain ⟨h1, eh1⟩ : ∃ z : Hp, z = wL h v0 0 ((kL h v0 0) + 1) := ⟨_, rfl⟩
  replace F := F h1 eh1
  refine x_putl hG hM ck_Ch 0 (Nat.le_of_ble_eq_true rfl) rfl rfl w_233 rfl d_Ch_inStart_7 (Or.inl rfl) c5 ?_
  rw [← eh1]
  clear eh1
  refine x_aload_n hM d_Ch_inStart_10 rfl 0 rfl ?_
  refine x_aload_n hM d_Ch_inStart_11 rfl 0 rfl ?_
  obtain ⟨c4, F⟩ := F
  refine x_getl hG hM ck_Ch 0 (Nat.le_of_ble_eq_true rfl) rfl rfl w_233 rfl d_Ch_inStart_12 c4 ?_
  obtain ⟨c3, F⟩ := F
  obtain ⟨h2, eh2⟩ : ∃ z : Hp, z = wL h1 v0 2 (kL h1 v0 0) := ⟨_, rfl⟩
  replace F := F h2 eh2
  refine x_putl hG hM ck_Ch 2 (Nat.le_of_ble_eq_true rfl) rfl rfl w_237 rfl d_Ch_inStart_15 (Or.inl rfl) c3 ?_
  rw [← eh2]
  clear eh2
  exact x_return hM d_Ch_inStart_18 rfl F
theorem d_Ch_inAim_0 : decode b_Ch_inAim 0 = .ok (.aload_n 0, 1) := by decide +kernel
theorem d_Ch_inAim_1 : decode b_Ch_inAim 1 = .ok (.dup, 1) := by decide +kernel
theorem d_Ch_inAim_2 : decode b_Ch_inAim 2 = .ok (.getfield 7, 3) := by decide +kernel
theorem d_Ch_inAim_5 : decode b_Ch_inAim 5 = .ok (.lconst 1, 1) := by decide +kernel
theorem d_Ch_inAim_6 : decode b_Ch_inAim 6 = .ok (.ladd, 1) := by decide +kernel
theorem d_Ch_inAim_7 : decode b_Ch_inAim 7 = .ok (.putfield 7, 3) := by decide +kernel
theorem d_Ch_inAim_10 : decode b_Ch_inAim 10 = .ok (.aload_n 0, 1) := by decide +kernel
theorem d_Ch_inAim_11 : decode b_Ch_inAim 11 = .ok (.aload_n 0, 1) := by decide +kernel
theorem d_Ch_inAim_12 : decode b_Ch_inAim 12 = .ok (.getfield 7, 3) := by decide +kernel
theorem d_Ch_inAim_15 : decode b_Ch_inAim 15 = .ok (.putfield 19, 3) := by decide +kernel
theorem d_Ch_inAim_18 : decode b_Ch_inAim 18 = .ok (.return_, 1) := by decide +kernel
set_option maxRecDepth 100000 in
set_option maxHeartbeats 4000000 in
theorem S_Ch_inAim_0 {G : Gc} {M : Mc} {Q : State → Prop} {K : Option Value → Hp → Prop} (hG : gok G) (hM : mok G M r_Ch_inAim Q K) (v0 : Nat) (h : Hp) (F : kT h v0 = 7 ∧ (kT h v0 = 7 ∧ (∀ h1 : Hp, h1 = wL h v0 0 ((kL h v0 0) + 1) → (kT h1 v0 = 7 ∧ (kT h1 v0 = 7 ∧ (∀ h2 : Hp, h2 = wL h1 v0 3 (kL h1 v0 0) → K none h2)))))) : X G M Q 0 [(0, .ref v0)] [] h := by
  refine x_aload_n hM d_Ch_inAim_0 rfl 0 rfl ?_
  refine x_dup hM d_Ch_inAim_1 rfl ?_
  obtain ⟨c6, F⟩ := F
  refine x_getl hG hM ck_Ch 0 (Nat.le_of_ble_eq_true rfl) rfl rfl w_233 rfl d_Ch_inAim_2 c6 ?_
  refine x_lconst (v := 1) hM d_Ch_inAim_5 (by decide) ?_
  refine x_ladd hM d_Ch_inAim_6 ?_
  obtain ⟨c5, F⟩ := F
  obtain ⟨h1, eh1⟩ : ∃ z : Hp, z = wL h v0 0 ((kL h v0 0) + 1) := ⟨_, rfl⟩
  replace F := F h1 eh1
  refine x_putl hG hM ck_Ch 0 (Nat.le_of_ble_eq_true rfl) rfl rfl w_233 rfl d_Ch_inAim_7 (Or.inl rfl) c5 ?_
  rw [← eh1]
  clear eh1
  refine x_aload_n hM d_Ch_inAim_10 rfl 0 rfl ?_
  refine x_aload_n hM d_Ch_inAim_11 rfl 0 rfl ?_
  obtain ⟨c4, F⟩ := F
  refine x_getl hG hM ck_Ch 0 (Nat.le_of_ble_eq_true rfl) rfl rfl w_233 rfl d_Ch_inAim_12 c4 ?_
  obtain ⟨c3, F⟩ := F
  obtain ⟨h2, eh2⟩ : ∃ z : Hp, z = wL h1 v0 3 (kL h1 v0 0) := ⟨_, rfl⟩
  replace F := F h2 eh2
  refine x_putl hG hM ck_Ch 3 (Nat.le_of_ble_eq_true rfl) rfl rfl w_239 rfl d_Ch_inAim_15 (Or.inl rfl) c3 ?_
  rw [← eh2]
  clear eh2
  exact x_return hM d_Ch_inAim_18 rfl F
theorem d_Ch_inCover_0 : decode b_Ch_inCover 0 = .ok (.aload_n 0, 1) := by decide +kernel
theorem d_Ch_inCover_1 : decode b_Ch_inCover 1 = .ok (.dup, 1) := by decide +kernel
theorem d_Ch_inCover_2 : decode b_Ch_inCover 2 = .ok (.getfield 7, 3) := by decide +kernel
theorem d_Ch_inCover_5 : decode b_Ch_inCover 5 = .ok (.lconst 1, 1) := by decide +kernel
theorem d_Ch_inCover_6 : decode b_Ch_inCover 6 = .ok (.ladd, 1) := by decide +kernel
theorem d_Ch_inCover_7 : decode b_Ch_inCover 7 = .ok (.putfield 7, 3) := by decide +kernel
theorem d_Ch_inCover_10 : decode b_Ch_inCover 10 = .ok (.return_, 1) := by decide +kernel
set_option maxRecDepth 100000 in
set_option maxHeartbeats 4000000 in
theorem S_Ch_inCover_0 {G : Gc} {M : Mc} {Q : State → Prop} {K : Option Value → Hp → Prop} (hG : gok G) (hM : mok G M r_Ch_inCover Q K) (v0 : Nat) (h : Hp) (F : kT h v0 = 7 ∧ (kT h v0 = 7 ∧ (∀ h1 : Hp, h1 = wL h v0 0 ((kL h v0 0) + 1) → K none h1))) : X G M Q 0 [(0, .ref v0)] [] h := by
  refine x_aload_n hM d_Ch_inCover_0 rfl 0 rfl ?_
  refine x_dup hM d_Ch_inCover_1 rfl ?_
  obtain ⟨c3, F⟩ := F
  refine x_getl hG hM ck_Ch 0 (Nat.le_of_ble_eq_true rfl) rfl rfl w_233 rfl d_Ch_inCover_2 c3 ?_
  refine x_lconst (v := 1) hM d_Ch_inCover_5 (by decide) ?_
  refine x_ladd hM d_Ch_inCover_6 ?_
  obtain ⟨c2, F⟩ := F
  obtain ⟨h1, eh1⟩ : ∃ z : Hp, z = wL h v0 0 ((kL h v0 0) + 1) := ⟨_, rfl⟩
  replace F := F h1 eh1
  refine x_putl hG hM ck_Ch 0 (Nat.le_of_ble_eq_true rfl) rfl rfl w_233 rfl d_Ch_inCover_7 (Or.inl rfl) c2 ?_
  rw [← eh1]
  clear eh1
  exact x_return hM d_Ch_inCover_10 rfl F
