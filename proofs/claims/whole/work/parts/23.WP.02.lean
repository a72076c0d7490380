theorem d_WP_findNumbers_0 : decode b_WP_findNumbers 0 = .ok (.aload_n 0, 1) := by decide +kernel
theorem d_WP_findNumbers_1 : decode b_WP_findNumbers 1 = .ok (.invokevirtual 178, 3) := by decide +kernel
theorem d_WP_findNumbers_4 : decode b_WP_findNumbers 4 = .ok (.aload_n 0, 1) := by decide +kernel
theorem d_WP_findNumbers_5 : decode b_WP_findNumbers 5 = .ok (.getfield 47, 3) := by decide +kernel
theorem d_WP_findNumbers_8 : decode b_WP_findNumbers 8 = .ok (.getfield 315, 3) := by decide +kernel
theorem d_WP_findNumbers_11 : decode b_WP_findNumbers 11 = .ok (.iload_n 1, 1) := by decide +kernel
theorem d_WP_findNumbers_12 : decode b_WP_findNumbers 12 = .ok (.laload, 1) := by decide +kernel
theorem d_WP_findNumbers_13 : decode b_WP_findNumbers 13 = .ok (.aload_n 0, 1) := by decide +kernel
theorem d_WP_findNumbers_14 : decode b_WP_findNumbers 14 = .ok (.getfield 33, 3) := by decide +kernel
theorem d_WP_findNumbers_17 : decode b_WP_findNumbers 17 = .ok (.getfield 291, 3) := by decide +kernel
theorem d_WP_findNumbers_20 : decode b_WP_findNumbers 20 = .ok (.aload_n 0, 1) := by decide +kernel
theorem d_WP_findNumbers_21 : decode b_WP_findNumbers 21 = .ok (.getfield 33, 3) := by decide +kernel
theorem d_WP_findNumbers_24 : decode b_WP_findNumbers 24 = .ok (.getfield 309, 3) := by decide +kernel
theorem d_WP_findNumbers_27 : decode b_WP_findNumbers 27 = .ok (.invokestatic 296, 3) := by decide +kernel
theorem d_WP_findNumbers_30 : decode b_WP_findNumbers 30 = .ok (.lcmp, 1) := by decide +kernel
theorem d_WP_findNumbers_31 : decode b_WP_findNumbers 31 = .ok (.ifCond .ge 31, 3) := by decide +kernel
theorem d_WP_findNumbers_34 : decode b_WP_findNumbers 34 = .ok (.aload_n 0, 1) := by decide +kernel
theorem d_WP_findNumbers_35 : decode b_WP_findNumbers 35 = .ok (.getfield 47, 3) := by decide +kernel
theorem d_WP_findNumbers_38 : decode b_WP_findNumbers 38 = .ok (.aload_n 0, 1) := by decide +kernel
theorem d_WP_findNumbers_39 : decode b_WP_findNumbers 39 = .ok (.getfield 12, 3) := by decide +kernel
theorem d_WP_findNumbers_42 : decode b_WP_findNumbers 42 = .ok (.iload_n 1, 1) := by decide +kernel
theorem d_WP_findNumbers_43 : decode b_WP_findNumbers 43 = .ok (.invokevirtual 317, 3) := by decide +kernel
theorem d_WP_findNumbers_46 : decode b_WP_findNumbers 46 = .ok (.aload_n 0, 1) := by decide +kernel
theorem d_WP_findNumbers_47 : decode b_WP_findNumbers 47 = .ok (.getfield 47, 3) := by decide +kernel
theorem d_WP_findNumbers_50 : decode b_WP_findNumbers 50 = .ok (.getfield 315, 3) := by decide +kernel
theorem d_WP_findNumbers_53 : decode b_WP_findNumbers 53 = .ok (.iload_n 1, 1) := by decide +kernel
theorem d_WP_findNumbers_54 : decode b_WP_findNumbers 54 = .ok (.aload_n 0, 1) := by decide +kernel
theorem d_WP_findNumbers_55 : decode b_WP_findNumbers 55 = .ok (.getfield 33, 3) := by decide +kernel
theorem d_WP_findNumbers_58 : decode b_WP_findNumbers 58 = .ok (.getfield 235, 3) := by decide +kernel
theorem d_WP_findNumbers_61 : decode b_WP_findNumbers 61 = .ok (.lastore, 1) := by decide +kernel
theorem d_WP_findNumbers_62 : decode b_WP_findNumbers 62 = .ok (.aload_n 0, 1) := by decide +kernel
theorem d_WP_findNumbers_63 : decode b_WP_findNumbers 63 = .ok (.getfield 47, 3) := by decide +kernel
theorem d_WP_findNumbers_66 : decode b_WP_findNumbers 66 = .ok (.iload_n 1, 1) := by decide +kernel
theorem d_WP_findNumbers_67 : decode b_WP_findNumbers 67 = .ok (.invokevirtual 319, 3) := by decide +kernel
theorem d_WP_findNumbers_70 : decode b_WP_findNumbers 70 = .ok (.areturn, 1) := by decide +kernel
set_option maxRecDepth 100000 in
set_option maxHeartbeats 4000000 in
theorem S_WP_findNumbers_0 {G : Gc} {M : Mc} {Q : State → Prop} {K : Option Value → Hp → Prop} (hG : gok G) (hM : mok G M r_WP_findNumbers Q K) (v0 : Nat) (v1 : Int32) (h : Hp) (F : kT h v0 = 1 ∧ sem G r_WP_findAim [.ref v0] h (fun u2 h1 => u2 = none ∧ (kT h1 v0 = 1 ∧ kR h1 v0 5 = some (rf h1 v0 5) ∧ (kT h1 (rf h1 v0 5) = 9 ∧ kR h1 (rf h1 v0 5) 6 = some (rf h1 (rf h1 v0 5) 6) ∧ (kT h1 (rf h1 (rf h1 v0 5) 6) = 52 ∧ vp_in v1 (kN h1 (rf h1 (rf h1 v0 5) 6)) ∧ (kT h1 v0 = 1 ∧ kR h1 v0 3 = some (rf h1 v0 3) ∧ (kT h1 (rf h1 v0 3) = 7 ∧ (kT h1 v0 = 1 ∧ kR h1 v0 3 = some (rf h1 v0 3) ∧ (kT h1 (rf h1 v0 3) = 7 ∧ (∀ z3 : Int64, z3 = (if (kL h1 (rf h1 v0 3) 3) < (kL h1 (rf h1 v0 3) 1) then (kL h1 (rf h1 v0 3) 1) else (kL h1 (rf h1 v0 3) 3)) → ((0 ≤ (lg_cmp (kL h1 (rf h1 (rf h1 v0 5) 6) (Int32.toNatClampNeg v1)) z3) → (kT h1 v0 = 1 ∧ kR h1 v0 5 = some (rf h1 v0 5) ∧ (kT h1 (rf h1 v0 5) = 9 ∧ sem G r_Wi_numbersOf [.ref (rf h1 v0 5), .int v1] h1 (fun u5 h4 => ∃ x6 : Nat, u5 = some (.ref x6) ∧ K (some (.ref x6)) h4)))) ∧ (¬ 0 ≤ (lg_cmp (kL h1 (rf h1 (rf h1 v0 5) 6) (Int32.toNatClampNeg v1)) z3) → (kT h1 v0 = 1 ∧ kR h1 v0 5 = some (rf h1 v0 5) ∧ (kT h1 v0 = 1 ∧ kR h1 v0 0 = some (rf h1 v0 0) ∧ (kT h1 (rf h1 v0 5) = 9 ∧ sem G r_Wi_findNumbers [.ref (rf h1 v0 5), .ref (rf h1 v0 0), .int v1] h1 (fun u11 h10 => u11 = none ∧ (kT h10 v0 = 1 ∧ kR h10 v0 5 = some (rf h10 v0 5) ∧ (kT h10 (rf h10 v0 5) = 9 ∧ kR h10 (rf h10 v0 5) 6 = some (rf h10 (rf h10 v0 5) 6) ∧ (kT h10 v0 = 1 ∧ kR h10 v0 3 = some (rf h10 v0 3) ∧ (kT h10 (rf h10 v0 3) = 7 ∧ (kT h10 (rf h10 (rf h10 v0 5) 6) = 52 ∧ vp_in v1 (kN h10 (rf h10 (rf h10 v0 5) 6)) ∧ (∀ h12 : Hp, h12 = wL h10 (rf h10 (rf h10 v0 5) 6) (Int32.toNatClampNeg v1) (kL h10 (rf h10 v0 3) 0) → (kT h12 v0 = 1 ∧ kR h12 v0 5 = some (rf h12 v0 5) ∧ (kT h12 (rf h12 v0 5) = 9 ∧ sem G r_Wi_numbersOf [.ref (rf h12 v0 5), .int v1] h12 (fun u14 h13 => ∃ x15 : Nat, u14 = some (.ref x15) ∧ K (some (.ref x15)) h13))))))))))))))))))))))))) : X G M Q 0 [(0, .ref v0), (1, .int v1)] [] h := by
  refine x_aload_n hM d_WP_findNumbers_0 rfl 0 rfl ?_
  obtain ⟨c46, F⟩ := F
  refine x_callV hG hM (r' := r_WP_findAim) (ci := 0) [] rfl rfl (Nat.le_of_ble_eq_true rfl) yk_WP_findAim ⟨Nat.le_of_ble_eq_true rfl, Nat.le_of_ble_eq_true rfl⟩ w_638 w_640 ws_WP_findAim rfl rfl (Nat.le_of_ble_eq_true rfl) d_WP_findNumbers_1 c46 (sem_mono F ?_)
  intro u2 h1 F
  obtain ⟨rfl, F⟩ := F
  refine x_aload_n hM d_WP_findNumbers_4 rfl 0 rfl ?_
  obtain ⟨c44, F⟩ := F
  obtain ⟨c45, F⟩ := F
  refine x_getr hG hM ck_WP 5 (Nat.le_of_ble_eq_true rfl) rfl rfl w_407 rfl d_WP_findNumbers_5 c44 c45 ?_
  obtain ⟨c42, F⟩ := F
  obtain ⟨c43, F⟩ := F
  refine x_getr hG hM ck_Wi 6 (Nat.le_of_ble_eq_true rfl) rfl rfl w_293 rfl d_WP_findNumbers_8 c42 c43 ?_
  refine x_iload_n hM d_WP_findNumbers_11 rfl 1 rfl ?_
  obtain ⟨c40, F⟩ := F
  obtain ⟨c41, F⟩ := F
  refine x_laload hG hM d_WP_findNumbers_12 c40 c41 ?_
  refine x_aload_n hM d_WP_findNumbers_13 rfl 0 rfl ?_
  obtain ⟨c38, F⟩ := F
  obtain ⟨c39, F⟩ := F
  refine x_getr hG hM ck_WP 3 (Nat.le_of_ble_eq_true rfl) rfl rfl w_405 rfl d_WP_findNumbers_14 c38 c39 ?_
  obtain ⟨c37, F⟩ := F
  refine x_getl hG hM ck_Ch 1 (Nat.le_of_ble_eq_true rfl) rfl rfl w_236 rfl d_WP_findNumbers_17 c37 ?_
  refine x_aload_n hM d_WP_findNumbers_20 rfl 0 rfl ?_
  obtain ⟨c35, F⟩ := F
  obtain ⟨c36, F⟩ := F
  refine x_getr hG hM ck_WP 3 (Nat.le_of_ble_eq_true rfl) rfl rfl w_405 rfl d_WP_findNumbers_21 c35 c36 ?_
  obtain ⟨c34, F⟩ := F
  refine x_getl hG hM ck_Ch 3 (Nat.le_of_ble_eq_true rfl) rfl rfl w_240 rfl d_WP_findNumbers_24 c34 ?_
  obtain ⟨z3, ez3⟩ : ∃ z : Int64, z = (if (kL h1 (rf h1 v0 3) 3) < (kL h1 (rf h1 v0 3) 1) then (kL h1 (rf h1 v0 3) 1) else (kL h1 (rf h1 v0 3) 3)) := ⟨_, rfl⟩
  replace F := F z3 ez3
  refine x_mmaxL hG hM rfl w_620 w_621 w_14 w_mmaxL (Nat.le_of_ble_eq_true rfl) (Nat.le_of_ble_eq_true rfl) d_WP_findNumbers_27 ?_
  rw [← ez3]
  clear ez3
  refine x_lcmp hM d_WP_findNumbers_30 ?_
  refine x_if_ge (tgt := 62) hM d_WP_findNumbers_31 (by decide) (fun q33 => ?_) (fun q33 => ?_)
  · replace F := F.1 q33
    refine x_aload_n hM d_WP_findNumbers_62 rfl 0 rfl ?_
    obtain ⟨c8, F⟩ := F
    obtain ⟨c9, F⟩ := F
    refine x_getr hG hM ck_WP 5 (Nat.le_of_ble_eq_true rfl) rfl rfl w_407 rfl d_WP_findNumbers_63 c8 c9 ?_
    refine x_iload_n hM d_WP_findNumbers_66 rfl 1 rfl ?_
    obtain ⟨c7, F⟩ := F
    refine x_callV hG hM (r' := r_Wi_numbersOf) (ci := 8) [.int v1] rfl rfl (Nat.le_of_ble_eq_true rfl) yk_Wi_numbersOf ⟨Nat.le_of_ble_eq_true rfl, Nat.le_of_ble_eq_true rfl⟩ w_682 w_683 w_684 rfl rfl (Nat.le_of_ble_eq_true rfl) d_WP_findNumbers_67 c7 (sem_mono F ?_)
    intro u5 h4 F
    obtain ⟨x6, rfl, F⟩ := F
    exact x_areturn hM d_WP_findNumbers_70 ⟨_, rfl, Or.inr ⟨_, rfl⟩⟩ F
  · replace F := F.2 q33
    refine x_aload_n hM d_WP_findNumbers_34 rfl 0 rfl ?_
    obtain ⟨c31, F⟩ := F
    obtain ⟨c32, F⟩ := F
    refine x_getr hG hM ck_WP 5 (Nat.le_of_ble_eq_true rfl) rfl rfl w_407 rfl d_WP_findNumbers_35 c31 c32 ?_
    refine x_aload_n hM d_WP_findNumbers_38 rfl 0 rfl ?_
    obtain ⟨c29, F⟩ := F
    obtain ⟨c30, F⟩ := F
    refine x_getr hG hM ck_WP 0 (Nat.le_of_ble_eq_true rfl) rfl rfl w_402 rfl d_WP_findNumbers_39 c29 c30 ?_
    refine x_iload_n hM d_WP_findNumbers_42 rfl 1 rfl ?_
    obtain ⟨c28, F⟩ := F
    refine x_callV hG hM (r' := r_Wi_findNumbers) (ci := 8) [.ref (rf h1 v0 0), .int v1] rfl rfl (Nat.le_of_ble_eq_true rfl) yk_Wi_findNumbers ⟨Nat.le_of_ble_eq_true rfl, Nat.le_of_ble_eq_true rfl⟩ w_654 w_655 w_656 rfl rfl (Nat.le_of_ble_eq_true rfl) d_WP_findNumbers_43 c28 (sem_mono F ?_)
    intro u11 h10 F
    obtain ⟨rfl, F⟩ := F
    refine x_aload_n hM d_WP_findNumbers_46 rfl 0 rfl ?_
    obtain ⟨c26, F⟩ := F
    obtain ⟨c27, F⟩ := F
    refine x_getr hG hM ck_WP 5 (Nat.le_of_ble_eq_true rfl) rfl rfl w_407 rfl d_WP_findNumbers_47 c26 c27 ?_
    obtain ⟨c24, F⟩ := F
    obtain ⟨c25, F⟩ := F
    refine x_getr hG hM ck_Wi 6 (Nat.le_of_ble_eq_true rfl) rfl rfl w_293 rfl d_WP_findNumbers_50 c24 c25 ?_
    refine x_iload_n hM d_WP_findNumbers_53 rfl 1 rfl ?_
    refine x_aload_n hM d_WP_findNumbers_54 rfl 0 rfl ?_
    obtain ⟨c22, F⟩ := F
    obtain ⟨c23, F⟩ := F
    refine x_getr hG hM ck_WP 3 (Nat.le_of_ble_eq_true rfl) rfl rfl w_405 rfl d_WP_findNumbers_55 c22 c23 ?_
    obtain ⟨c21, F⟩ := F
    refine x_getl hG hM ck_Ch 0 (Nat.le_of_ble_eq_true rfl) rfl rfl w_234 rfl d_WP_findNumbers_58 c21 ?_
    obtain ⟨c19, F⟩ := F
    obtain ⟨c20, F⟩ := F
    obtain ⟨h12, eh12⟩ : ∃ z : Hp, z = wL h10 (rf h10 (rf h10 v0 5) 6) (Int32.toNatClampNeg v1) (kL h10 (rf h10 v0 3) 0) := ⟨_, rfl⟩
    replace F := F h12 eh12
    refine x_lastore hG hM d_WP_findNumbers_61 c19 c20 ?_
    rw [← eh12]
    clear eh12
    refine x_aload_n hM d_WP_findNumbers_62 rfl 0 rfl ?_
    obtain ⟨c17, F⟩ := F
    obtain ⟨c18, F⟩ := F
    refine x_getr hG hM ck_WP 5 (Nat.le_of_ble_eq_true rfl) rfl rfl w_407 rfl d_WP_findNumbers_63 c17 c18 ?_
    refine x_iload_n hM d_WP_findNumbers_66 rfl 1 rfl ?_
    obtain ⟨c16, F⟩ := F
    refine x_callV hG hM (r' := r_Wi_numbersOf) (ci := 8) [.int v1] rfl rfl (Nat.le_of_ble_eq_true rfl) yk_Wi_numbersOf ⟨Nat.le_of_ble_eq_true rfl, Nat.le_of_ble_eq_true rfl⟩ w_682 w_683 w_684 rfl rfl (Nat.le_of_ble_eq_true rfl) d_WP_findNumbers_67 c16 (sem_mono F ?_)
    intro u14 h13 F
    obtain ⟨x15, rfl, F⟩ := F
    exact x_areturn hM d_WP_findNumbers_70 ⟨_, rfl, Or.inr ⟨_, rfl⟩⟩ F
theorem d_WP_countNumbered_0 : decode b_WP_countNumbered 0 = .ok (.iconst 0, 1) := by decide +kernel
theorem d_WP_countNumbered_1 : decode b_WP_countNumbered 1 = .ok (.istore_n 2, 1) := by decide +kernel
theorem d_WP_countNumbered_2 : decode b_WP_countNumbered 2 = .ok (.iconst 0, 1) := by decide +kernel
theorem d_WP_countNumbered_3 : decode b_WP_countNumbered 3 = .ok (.istore_n 3, 1) := by decide +kernel
theorem d_WP_countNumbered_4 : decode b_WP_countNumbered 4 = .ok (.iload_n 3, 1) := by decide +kernel
theorem d_WP_countNumbered_5 : decode b_WP_countNumbered 5 = .ok (.aload_n 0, 1) := by decide +kernel
theorem d_WP_countNumbered_6 : decode b_WP_countNumbered 6 = .ok (.getfield 12, 3) := by decide +kernel
theorem d_WP_countNumbered_9 : decode b_WP_countNumbered 9 = .ok (.getfield 169, 3) := by decide +kernel
theorem d_WP_countNumbered_12 : decode b_WP_countNumbered 12 = .ok (.if_icmp .ge 19, 3) := by decide +kernel
theorem d_WP_countNumbered_15 : decode b_WP_countNumbered 15 = .ok (.aload_n 1, 1) := by decide +kernel
theorem d_WP_countNumbered_16 : decode b_WP_countNumbered 16 = .ok (.iload_n 3, 1) := by decide +kernel
theorem d_WP_countNumbered_17 : decode b_WP_countNumbered 17 = .ok (.iaload, 1) := by decide +kernel
theorem d_WP_countNumbered_18 : decode b_WP_countNumbered 18 = .ok (.iconst (-1), 1) := by decide +kernel
theorem d_WP_countNumbered_19 : decode b_WP_countNumbered 19 = .ok (.if_icmp .eq 6, 3) := by decide +kernel
theorem d_WP_countNumbered_22 : decode b_WP_countNumbered 22 = .ok (.iinc 2 1, 3) := by decide +kernel
theorem d_WP_countNumbered_25 : decode b_WP_countNumbered 25 = .ok (.iinc 3 1, 3) := by decide +kernel
theorem d_WP_countNumbered_28 : decode b_WP_countNumbered 28 = .ok (.goto (-24), 3) := by decide +kernel
theorem d_WP_countNumbered_31 : decode b_WP_countNumbered 31 = .ok (.iload_n 2, 1) := by decide +kernel
theorem d_WP_countNumbered_32 : decode b_WP_countNumbered 32 = .ok (.ireturn, 1) := by decide +kernel
set_option maxRecDepth 100000 in
set_option maxHeartbeats 4000000 in
theorem S_WP_countNumbered_0 {G : Gc} {M : Mc} {Q : State → Prop} {K : Option Value → Hp → Prop} (hG : gok G) (hM : mok G M r_WP_countNumbered Q K) (v0 : Nat) (v1 : Nat) (h : Hp) (F : X G M Q 4 [(0, .ref v0), (1, .ref v1), (2, .int 0), (3, .int 0)] [] h) : X G M Q 0 [(0, .ref v0), (1, .ref v1)] [] h := by
  refine x_iconst (v := 0) hM d_WP_countNumbered_0 (by decide) ?_
  refine x_istore_n (lv2 := [(2, .int 0), (0, .ref v0), (1, .ref v1)]) hM d_WP_countNumbered_1 rfl (Nat.le_of_ble_eq_true rfl) rfl ?_
  refine x_iconst (v := 0) hM d_WP_countNumbered_2 (by decide) ?_
  refine x_istore_n (lv2 := [(3, .int 0), (2, .int 0), (0, .ref v0), (1, .ref v1)]) hM d_WP_countNumbered_3 rfl (Nat.le_of_ble_eq_true rfl) rfl ?_
  refine x_sub [2, 3, 1, 0] rfl ?_
  exact F
set_option maxRecDepth 100000 in
set_option maxHeartbeats 4000000 in
theorem S_WP_countNumbered_4 {G : Gc} {M : Mc} {Q : State → Prop} {K : Option Value → Hp → Prop} (hG : gok G) (hM : mok G M r_WP_countNumbered Q K) (v0 : Nat) (v1 : Nat) (v2 : Int32) (v3 : Int32) (h : Hp) (F : kT h v0 = 1 ∧ kR h v0 0 = some (rf h v0 0) ∧ (kT h (rf h v0 0) = 2 ∧ (((kI h (rf h v0 0) 1) ≤ v3 → K (some (.int v2)) h) ∧ (¬ (kI h (rf h v0 0) 1) ≤ v3 → (kT h v1 = 50 ∧ vp_in v3 (kN h v1) ∧ (∀ z1 : Int32, z1 = (if (kI h v1 (Int32.toNatClampNeg v3)) = (-1) then v2 else (v2 + 1)) → X G M Q 4 [(0, .ref v0), (1, .ref v1), (2, .int z1), (3, .int (v3 + 1))] [] h)))))) : X G M Q 4 [(0, .ref v0), (1, .ref v1), (2, .int v2), (3, .int v3)] [] h := by
  refine x_iload_n hM d_WP_countNumbered_4 rfl 3 rfl ?_
  refine x_aload_n hM d_WP_countNumbered_5 rfl 0 rfl ?_
  obtain ⟨c7, F⟩ := F
  obtain ⟨c8, F⟩ := F
  refine x_getr hG hM ck_WP 0 (Nat.le_of_ble_eq_true rfl) rfl rfl w_402 rfl d_WP_countNumbered_6 c7 c8 ?_
  obtain ⟨c6, F⟩ := F
  refine x_geti hG hM ck_Wo 1 (Nat.le_of_ble_eq_true rfl) rfl rfl w_132 rfl d_WP_countNumbered_9 c6 ?_
  refine x_icmp_ge (tgt := 31) hM d_WP_countNumbered_12 (by decide) (fun q5 => ?_) (fun q5 => ?_)
  · replace F := F.1 q5
    refine x_iload_n hM d_WP_countNumbered_31 rfl 2 rfl ?_
    exact x_ireturn hM d_WP_countNumbered_32 rfl F
  · replace F := F.2 q5
    refine x_aload_n hM d_WP_countNumbered_15 rfl 1 rfl ?_
    refine x_iload_n hM d_WP_countNumbered_16 rfl 3 rfl ?_
    obtain ⟨c3, F⟩ := F
    obtain ⟨c4, F⟩ := F
    refine x_iaload hG hM d_WP_countNumbered_17 c3 c4 ?_
    refine x_iconst (v := (-1)) hM d_WP_countNumbered_18 (by decide) ?_
    have JJ : ∀ (z1 : Int32) (ez1 : z1 = (if (kI h v1 (Int32.toNatClampNeg v3)) = (-1) then v2 else (v2 + 1))), X G M Q 25 [(0, .ref v0), (1, .ref v1), (2, .int z1), (3, .int v3)] [] h := by
      intro z1 ez1
      replace F := F _ ez1
      refine x_iinc (v := (v3 + 1)) (lv2 := [(3, .int (v3 + 1)), (0, .ref v0), (1, .ref v1), (2, .int z1)]) hM d_WP_countNumbered_25 (j := 3) rfl rfl (Nat.le_of_ble_eq_true rfl) rfl ?_
      refine x_goto (tgt := 4) hM d_WP_countNumbered_28 (by decide) ?_
      refine x_sub [1, 2, 3, 0] rfl ?_
      exact F
    refine x_icmp_eq (tgt := 25) hM d_WP_countNumbered_19 (by decide) (fun q2 => ?_) (fun q2 => ?_)
    · exact JJ _ (Eq.symm (if_pos q2))
    · refine x_iinc (v := (v2 + 1)) (lv2 := [(2, .int (v2 + 1)), (0, .ref v0), (1, .ref v1), (3, .int v3)]) hM d_WP_countNumbered_22 (j := 2) rfl rfl (Nat.le_of_ble_eq_true rfl) rfl ?_
      refine x_sub [1, 2, 0, 3] rfl ?_
      exact JJ _ (Eq.symm (if_neg q2))
theorem d_WP_countDead_0 : decode b_WP_countDead 0 = .ok (.aload_n 0, 1) := by decide +kernel
theorem d_WP_countDead_1 : decode b_WP_countDead 1 = .ok (.invokevirtual 172, 3) := by decide +kernel
theorem d_WP_countDead_4 : decode b_WP_countDead 4 = .ok (.aload_n 0, 1) := by decide +kernel
theorem d_WP_countDead_5 : decode b_WP_countDead 5 = .ok (.iconst 1, 1) := by decide +kernel
theorem d_WP_countDead_6 : decode b_WP_countDead 6 = .ok (.invokevirtual 184, 3) := by decide +kernel
theorem d_WP_countDead_9 : decode b_WP_countDead 9 = .ok (.astore_n 1, 1) := by decide +kernel
theorem d_WP_countDead_10 : decode b_WP_countDead 10 = .ok (.iconst 0, 1) := by decide +kernel
theorem d_WP_countDead_11 : decode b_WP_countDead 11 = .ok (.istore_n 2, 1) := by decide +kernel
theorem d_WP_countDead_12 : decode b_WP_countDead 12 = .ok (.iconst 0, 1) := by decide +kernel
theorem d_WP_countDead_13 : decode b_WP_countDead 13 = .ok (.istore_n 3, 1) := by decide +kernel
theorem d_WP_countDead_14 : decode b_WP_countDead 14 = .ok (.iload_n 3, 1) := by decide +kernel
theorem d_WP_countDead_15 : decode b_WP_countDead 15 = .ok (.aload_n 0, 1) := by decide +kernel
theorem d_WP_countDead_16 : decode b_WP_countDead 16 = .ok (.getfield 12, 3) := by decide +kernel
theorem d_WP_countDead_19 : decode b_WP_countDead 19 = .ok (.getfield 169, 3) := by decide +kernel
theorem d_WP_countDead_22 : decode b_WP_countDead 22 = .ok (.if_icmp .ge 32, 3) := by decide +kernel
theorem d_WP_countDead_25 : decode b_WP_countDead 25 = .ok (.aload_n 0, 1) := by decide +kernel
theorem d_WP_countDead_26 : decode b_WP_countDead 26 = .ok (.getfield 40, 3) := by decide +kernel
theorem d_WP_countDead_29 : decode b_WP_countDead 29 = .ok (.getfield 201, 3) := by decide +kernel
theorem d_WP_countDead_32 : decode b_WP_countDead 32 = .ok (.iload_n 3, 1) := by decide +kernel
theorem d_WP_countDead_33 : decode b_WP_countDead 33 = .ok (.iaload, 1) := by decide +kernel
theorem d_WP_countDead_34 : decode b_WP_countDead 34 = .ok (.iconst (-1), 1) := by decide +kernel
theorem d_WP_countDead_35 : decode b_WP_countDead 35 = .ok (.if_icmp .eq 13, 3) := by decide +kernel
theorem d_WP_countDead_38 : decode b_WP_countDead 38 = .ok (.aload_n 1, 1) := by decide +kernel
theorem d_WP_countDead_39 : decode b_WP_countDead 39 = .ok (.iload_n 3, 1) := by decide +kernel
theorem d_WP_countDead_40 : decode b_WP_countDead 40 = .ok (.iaload, 1) := by decide +kernel
theorem d_WP_countDead_41 : decode b_WP_countDead 41 = .ok (.iconst (-1), 1) := by decide +kernel
theorem d_WP_countDead_42 : decode b_WP_countDead 42 = .ok (.if_icmp .ne 6, 3) := by decide +kernel
theorem d_WP_countDead_45 : decode b_WP_countDead 45 = .ok (.iinc 2 1, 3) := by decide +kernel
theorem d_WP_countDead_48 : decode b_WP_countDead 48 = .ok (.iinc 3 1, 3) := by decide +kernel
theorem d_WP_countDead_51 : decode b_WP_countDead 51 = .ok (.goto (-37), 3) := by decide +kernel
theorem d_WP_countDead_54 : decode b_WP_countDead 54 = .ok (.iload_n 2, 1) := by decide +kernel
theorem d_WP_countDead_55 : decode b_WP_countDead 55 = .ok (.ireturn, 1) := by decide +kernel
set_option maxRecDepth 100000 in
set_option maxHeartbeats 4000000 in
theorem S_WP_countDead_0 {G : Gc} {M : Mc} {Q : State → Prop} {K : Option Value → Hp → Prop} (hG : gok G) (hM : mok G M r_WP_countDead Q K) (v0 : Nat) (h : Hp) (F : kT h v0 = 1 ∧ sem G r_WP_findReached [.ref v0] h (fun u2 h1 => u2 = none ∧ (kT h1 v0 = 1 ∧ sem G r_WP_findNumbers [.ref v0, .int 1] h1 (fun u4 h3 => ∃ x5 : Nat, u4 = some (.ref x5) ∧ X G M Q 14 [(0, .ref v0), (1, .ref x5), (2, .int 0), (3, .int 0)] [] h3)))) : X G M Q 0 [(0, .ref v0)] [] h := by
  refine x_aload_n hM d_WP_countDead_0 rfl 0 rfl ?_
  obtain ⟨c7, F⟩ := F
  refine x_callV hG hM (r' := r_WP_findReached) (ci := 0) [] rfl rfl (Nat.le_of_ble_eq_true rfl) yk_WP_findReached ⟨Nat.le_of_ble_eq_true rfl, Nat.le_of_ble_eq_true rfl⟩ w_616 w_618 ws_WP_findReached rfl rfl (Nat.le_of_ble_eq_true rfl) d_WP_countDead_1 c7 (sem_mono F ?_)
  intro u2 h1 F
  obtain ⟨rfl, F⟩ := F
  refine x_aload_n hM d_WP_countDead_4 rfl 0 rfl ?_
  refine x_iconst (v := 1) hM d_WP_countDead_5 (by decide) ?_
  obtain ⟨c6, F⟩ := F
  refine x_callV hG hM (r' := r_WP_findNumbers) (ci := 0) [.int 1] rfl rfl (Nat.le_of_ble_eq_true rfl) yk_WP_findNumbers ⟨Nat.le_of_ble_eq_true rfl, Nat.le_of_ble_eq_true rfl⟩ w_650 w_652 ws_WP_findNumbers rfl rfl (Nat.le_of_ble_eq_true rfl) d_WP_countDead_6 c6 (sem_mono F ?_)
  intro u4 h3 F
  obtain ⟨x5, rfl, F⟩ := F
  refine x_astore_n (lv2 := [(1, .ref x5), (0, .ref v0)]) hM d_WP_countDead_9 rfl (Nat.le_of_ble_eq_true rfl) rfl ?_
  refine x_iconst (v := 0) hM d_WP_countDead_10 (by decide) ?_
  refine x_istore_n (lv2 := [(2, .int 0), (1, .ref x5), (0, .ref v0)]) hM d_WP_countDead_11 rfl (Nat.le_of_ble_eq_true rfl) rfl ?_
  refine x_iconst (v := 0) hM d_WP_countDead_12 (by decide) ?_
  refine x_istore_n (lv2 := [(3, .int 0), (2, .int 0), (1, .ref x5), (0, .ref v0)]) hM d_WP_countDead_13 rfl (Nat.le_of_ble_eq_true rfl) rfl ?_
  refine x_sub [3, 2, 1, 0] rfl ?_
  exact F
set_option maxRecDepth 100000 in
set_option maxHeartbeats 4000000 in
theorem S_WP_countDead_14 {G : Gc} {M : Mc} {Q : State → Prop} {K : Option Value → Hp → Prop} (hG : gok G) (hM : mok G M r_WP_countDead Q K) (v0 : Nat) (v1 : Nat) (v2 : Int32) (v3 : Int32) (h : Hp) (F : kT h v0 = 1 ∧ kR h v0 0 = some (rf h v0 0) ∧ (kT h (rf h v0 0) = 2 ∧ (((kI h (rf h v0 0) 1) ≤ v3 → K (some (.int v2)) h) ∧ (¬ (kI h (rf h v0 0) 1) ≤ v3 → (kT h v0 = 1 ∧ kR h v0 4 = some (rf h v0 4) ∧ (kT h (rf h v0 4) = 8 ∧ kR h (rf h v0 4) 0 = some (rf h (rf h v0 4) 0) ∧ (kT h (rf h (rf h v0 4) 0) = 50 ∧ vp_in v3 (kN h (rf h (rf h v0 4) 0)) ∧ ((¬ (kI h (rf h (rf h v0 4) 0) (Int32.toNatClampNeg v3)) = (-1) → (kT h v1 = 50 ∧ vp_in v3 (kN h v1))) ∧ (∀ z1 : Int32, z1 = (if (kI h (rf h (rf h v0 4) 0) (Int32.toNatClampNeg v3)) = (-1) then v2 else (if (kI h v1 (Int32.toNatClampNeg v3)) = (-1) then (v2 + 1) else v2)) → X G M Q 14 [(0, .ref v0), (1, .ref v1), (2, .int z1), (3, .int (v3 + 1))] [] h))))))))) : X G M Q 14 [(0, .ref v0), (1, .ref v1), (2, .int v2), (3, .int v3)] [] h := by
  refine x_iload_n hM d_WP_countDead_14 rfl 3 rfl ?_
  refine x_aload_n hM d_WP_countDead_15 rfl 0 rfl ?_
  obtain ⟨c14, F⟩ := F
  obtain ⟨c15, F⟩ := F
  refine x_getr hG hM ck_WP 0 (Nat.le_of_ble_eq_true rfl) rfl rfl w_402 rfl d_WP_countDead_16 c14 c15 ?_
  obtain ⟨c13, F⟩ := F
  refine x_geti hG hM ck_Wo 1 (Nat.le_of_ble_eq_true rfl) rfl rfl w_132 rfl d_WP_countDead_19 c13 ?_
  refine x_icmp_ge (tgt := 54) hM d_WP_countDead_22 (by decide) (fun q12 => ?_) (fun q12 => ?_)
  · replace F := F.1 q12
    refine x_iload_n hM d_WP_countDead_54 rfl 2 rfl ?_
    exact x_ireturn hM d_WP_countDead_55 rfl F
  · replace F := F.2 q12
    refine x_aload_n hM d_WP_countDead_25 rfl 0 rfl ?_
    obtain ⟨c10, F⟩ := F
    obtain ⟨c11, F⟩ := F
    refine x_getr hG hM ck_WP 4 (Nat.le_of_ble_eq_true rfl) rfl rfl w_406 rfl d_WP_countDead_26 c10 c11 ?_
    obtain ⟨c8, F⟩ := F
    obtain ⟨c9, F⟩ := F
    refine x_getr hG hM ck_Re 0 (Nat.le_of_ble_eq_true rfl) rfl rfl w_257 rfl d_WP_countDead_29 c8 c9 ?_
    refine x_iload_n hM d_WP_countDead_32 rfl 3 rfl ?_
    obtain ⟨c6, F⟩ := F
    obtain ⟨c7, F⟩ := F
    refine x_iaload hG hM d_WP_countDead_33 c6 c7 ?_
    refine x_iconst (v := (-1)) hM d_WP_countDead_34 (by decide) ?_
    obtain ⟨S, F⟩ := F
    have JJ : ∀ (z1 : Int32) (ez1 : z1 = (if (kI h (rf h (rf h v0 4) 0) (Int32.toNatClampNeg v3)) = (-1) then v2 else (if (kI h v1 (Int32.toNatClampNeg v3)) = (-1) then (v2 + 1) else v2))), X G M Q 48 [(0, .ref v0), (1, .ref v1), (2, .int z1), (3, .int v3)] [] h := by
      intro z1 ez1
      replace F := F _ ez1
      refine x_iinc (v := (v3 + 1)) (lv2 := [(3, .int (v3 + 1)), (0, .ref v0), (1, .ref v1), (2, .int z1)]) hM d_WP_countDead_48 (j := 3) rfl rfl (Nat.le_of_ble_eq_true rfl) rfl ?_
      refine x_goto (tgt := 14) hM d_WP_countDead_51 (by decide) ?_
      refine x_sub [1, 2, 3, 0] rfl ?_
      exact F
    refine x_icmp_eq (tgt := 48) hM d_WP_countDead_35 (by decide) (fun q2 => ?_) (fun q2 => ?_)
    · exact JJ _ (Eq.symm (if_pos q2))
    · replace S := S q2
      refine x_aload_n hM d_WP_countDead_38 rfl 1 rfl ?_
      refine x_iload_n hM d_WP_countDead_39 rfl 3 rfl ?_
      obtain ⟨c3, S⟩ := S
      have c4 := S
      refine x_iaload hG hM d_WP_countDead_40 c3 c4 ?_
      refine x_iconst (v := (-1)) hM d_WP_countDead_41 (by decide) ?_
      refine x_icmp_ne (tgt := 48) hM d_WP_countDead_42 (by decide) (fun q5 => ?_) (fun q5 => ?_)
      · exact JJ _ (Eq.symm (Eq.trans (if_neg q2) (if_neg q5)))
      · refine x_iinc (v := (v2 + 1)) (lv2 := [(2, .int (v2 + 1)), (0, .ref v0), (1, .ref v1), (3, .int v3)]) hM d_WP_countDead_45 (j := 2) rfl rfl (Nat.le_of_ble_eq_true rfl) rfl ?_
        refine x_sub [1, 2, 0, 3] rfl ?_
        exact JJ _ (Eq.symm (Eq.trans (if_neg q2) (if_pos q5)))
theorem d_WP_findKinds_0 : decode b_WP_findKinds 0 = .ok (.aload_n 0, 1) := by decide +kernel
theorem d_WP_findKinds_1 : decode b_WP_findKinds 1 = .ok (.invokevirtual 178, 3) := by decide +kernel
theorem d_WP_findKinds_4 : decode b_WP_findKinds 4 = .ok (.aload_n 0, 1) := by decide +kernel
theorem d_WP_findKinds_5 : decode b_WP_findKinds 5 = .ok (.getfield 54, 3) := by decide +kernel
theorem d_WP_findKinds_8 : decode b_WP_findKinds 8 = .ok (.getfield 322, 3) := by decide +kernel
theorem d_WP_findKinds_11 : decode b_WP_findKinds 11 = .ok (.aload_n 0, 1) := by decide +kernel
theorem d_WP_findKinds_12 : decode b_WP_findKinds 12 = .ok (.getfield 33, 3) := by decide +kernel
theorem d_WP_findKinds_15 : decode b_WP_findKinds 15 = .ok (.getfield 291, 3) := by decide +kernel
theorem d_WP_findKinds_18 : decode b_WP_findKinds 18 = .ok (.aload_n 0, 1) := by decide +kernel
theorem d_WP_findKinds_19 : decode b_WP_findKinds 19 = .ok (.getfield 33, 3) := by decide +kernel
theorem d_WP_findKinds_22 : decode b_WP_findKinds 22 = .ok (.getfield 309, 3) := by decide +kernel
theorem d_WP_findKinds_25 : decode b_WP_findKinds 25 = .ok (.invokestatic 296, 3) := by decide +kernel
theorem d_WP_findKinds_28 : decode b_WP_findKinds 28 = .ok (.lcmp, 1) := by decide +kernel
theorem d_WP_findKinds_29 : decode b_WP_findKinds 29 = .ok (.ifCond .ge 35, 3) := by decide +kernel
theorem d_WP_findKinds_32 : decode b_WP_findKinds 32 = .ok (.aload_n 0, 1) := by decide +kernel
theorem d_WP_findKinds_33 : decode b_WP_findKinds 33 = .ok (.getfield 54, 3) := by decide +kernel
theorem d_WP_findKinds_36 : decode b_WP_findKinds 36 = .ok (.aload_n 0, 1) := by decide +kernel
theorem d_WP_findKinds_37 : decode b_WP_findKinds 37 = .ok (.getfield 12, 3) := by decide +kernel
theorem d_WP_findKinds_40 : decode b_WP_findKinds 40 = .ok (.aload_n 0, 1) := by decide +kernel
theorem d_WP_findKinds_41 : decode b_WP_findKinds 41 = .ok (.getfield 47, 3) := by decide +kernel
theorem d_WP_findKinds_44 : decode b_WP_findKinds 44 = .ok (.getfield 228, 3) := by decide +kernel
theorem d_WP_findKinds_47 : decode b_WP_findKinds 47 = .ok (.invokevirtual 323, 3) := by decide +kernel
theorem d_WP_findKinds_50 : decode b_WP_findKinds 50 = .ok (.aload_n 0, 1) := by decide +kernel
theorem d_WP_findKinds_51 : decode b_WP_findKinds 51 = .ok (.getfield 54, 3) := by decide +kernel
theorem d_WP_findKinds_54 : decode b_WP_findKinds 54 = .ok (.aload_n 0, 1) := by decide +kernel
theorem d_WP_findKinds_55 : decode b_WP_findKinds 55 = .ok (.getfield 33, 3) := by decide +kernel
theorem d_WP_findKinds_58 : decode b_WP_findKinds 58 = .ok (.getfield 235, 3) := by decide +kernel
theorem d_WP_findKinds_61 : decode b_WP_findKinds 61 = .ok (.putfield 322, 3) := by decide +kernel
theorem d_WP_findKinds_64 : decode b_WP_findKinds 64 = .ok (.return_, 1) := by decide +kernel
set_option maxRecDepth 100000 in
set_option maxHeartbeats 4000000 in
theorem S_WP_findKinds_0 {G : Gc} {M : Mc} {Q : State → Prop} {K : Option Value → Hp → Prop} (hG : gok G) (hM : mok G M r_WP_findKinds Q K) (v0 : Nat) (h : Hp) (F : kT h v0 = 1 ∧ sem G r_WP_findAim [.ref v0] h (fun u2 h1 => u2 = none ∧ (kT h1 v0 = 1 ∧ kR h1 v0 6 = some (rf h1 v0 6) ∧ (kT h1 (rf h1 v0 6) = 10 ∧ (kT h1 v0 = 1 ∧ kR h1 v0 3 = some (rf h1 v0 3) ∧ (kT h1 (rf h1 v0 3) = 7 ∧ (kT h1 v0 = 1 ∧ kR h1 v0 3 = some (rf h1 v0 3) ∧ (kT h1 (rf h1 v0 3) = 7 ∧ (∀ z3 : Int64, z3 = (if (kL h1 (rf h1 v0 3) 3) < (kL h1 (rf h1 v0 3) 1) then (kL h1 (rf h1 v0 3) 1) else (kL h1 (rf h1 v0 3) 3)) → ((0 ≤ (lg_cmp (kL h1 (rf h1 v0 6) 1) z3) → K none h1) ∧ (¬ 0 ≤ (lg_cmp (kL h1 (rf h1 v0 6) 1) z3) → (kT h1 v0 = 1 ∧ kR h1 v0 6 = some (rf h1 v0 6) ∧ (kT h1 v0 = 1 ∧ kR h1 v0 0 = some (rf h1 v0 0) ∧ (kT h1 v0 = 1 ∧ kR h1 v0 5 = some (rf h1 v0 5) ∧ (kT h1 (rf h1 v0 5) = 9 ∧ kR h1 (rf h1 v0 5) 0 = some (rf h1 (rf h1 v0 5) 0) ∧ (kT h1 (rf h1 v0 6) = 10 ∧ sem G r_Ki_split [.ref (rf h1 v0 6), .ref (rf h1 v0 0), .ref (rf h1 (rf h1 v0 5) 0)] h1 (fun u5 h4 => u5 = none ∧ (kT h4 v0 = 1 ∧ kR h4 v0 6 = some (rf h4 v0 6) ∧ (kT h4 v0 = 1 ∧ kR h4 v0 3 = some (rf h4 v0 3) ∧ (kT h4 (rf h4 v0 3) = 7 ∧ (kT h4 (rf h4 v0 6) = 10 ∧ (∀ h6 : Hp, h6 = wL h4 (rf h4 v0 6) 1 (kL h4 (rf h4 v0 3) 0) → K none h6)))))))))))))))))))))) : X G M Q 0 [(0, .ref v0)] [] h := by
  refine x_aload_n hM d_WP_findKinds_0 rfl 0 rfl ?_
  obtain ⟨c32, F⟩ := F
  refine x_callV hG hM (r' := r_WP_findAim) (ci := 0) [] rfl rfl (Nat.le_of_ble_eq_true rfl) yk_WP_findAim ⟨Nat.le_of_ble_eq_true rfl, Nat.le_of_ble_eq_true rfl⟩ w_638 w_640 ws_WP_findAim rfl rfl (Nat.le_of_ble_eq_true rfl) d_WP_findKinds_1 c32 (sem_mono F ?_)
  intro u2 h1 F
  obtain ⟨rfl, F⟩ := F
  refine x_aload_n hM d_WP_findKinds_4 rfl 0 rfl ?_
  obtain ⟨c30, F⟩ := F
  obtain ⟨c31, F⟩ := F
  refine x_getr hG hM ck_WP 6 (Nat.le_of_ble_eq_true rfl) rfl rfl w_408 rfl d_WP_findKinds_5 c30 c31 ?_
  obtain ⟨c29, F⟩ := F
  refine x_getl hG hM ck_Ki 1 (Nat.le_of_ble_eq_true rfl) rfl rfl w_324 rfl d_WP_findKinds_8 c29 ?_
  refine x_aload_n hM d_WP_findKinds_11 rfl 0 rfl ?_
  obtain ⟨c27, F⟩ := F
  obtain ⟨c28, F⟩ := F
  refine x_getr hG hM ck_WP 3 (Nat.le_of_ble_eq_true rfl) rfl rfl w_405 rfl d_WP_findKinds_12 c27 c28 ?_
  obtain ⟨c26, F⟩ := F
  refine x_getl hG hM ck_Ch 1 (Nat.le_of_ble_eq_true rfl) rfl rfl w_236 rfl d_WP_findKinds_15 c26 ?_
  refine x_aload_n hM d_WP_findKinds_18 rfl 0 rfl ?_
  obtain ⟨c24, F⟩ := F
  obtain ⟨c25, F⟩ := F
  refine x_getr hG hM ck_WP 3 (Nat.le_of_ble_eq_true rfl) rfl rfl w_405 rfl d_WP_findKinds_19 c24 c25 ?_
  obtain ⟨c23, F⟩ := F
  refine x_getl hG hM ck_Ch 3 (Nat.le_of_ble_eq_true rfl) rfl rfl w_240 rfl d_WP_findKinds_22 c23 ?_
  obtain ⟨z3, ez3⟩ : ∃ z : Int64, z = (if (kL h1 (rf h1 v0 3) 3) < (kL h1 (rf h1 v0 3) 1) then (kL h1 (rf h1 v0 3) 1) else (kL h1 (rf h1 v0 3) 3)) := ⟨_, rfl⟩
  replace F := F z3 ez3
  refine x_mmaxL hG hM rfl w_620 w_621 w_14 w_mmaxL (Nat.le_of_ble_eq_true rfl) (Nat.le_of_ble_eq_true rfl) d_WP_findKinds_25 ?_
  rw [← ez3]
  clear ez3
  refine x_lcmp hM d_WP_findKinds_28 ?_
  refine x_if_ge (tgt := 64) hM d_WP_findKinds_29 (by decide) (fun q22 => ?_) (fun q22 => ?_)
  · replace F := F.1 q22
    exact x_return hM d_WP_findKinds_64 rfl F
  · replace F := F.2 q22
    refine x_aload_n hM d_WP_findKinds_32 rfl 0 rfl ?_
    obtain ⟨c20, F⟩ := F
    obtain ⟨c21, F⟩ := F
    refine x_getr hG hM ck_WP 6 (Nat.le_of_ble_eq_true rfl) rfl rfl w_408 rfl d_WP_findKinds_33 c20 c21 ?_
    refine x_aload_n hM d_WP_findKinds_36 rfl 0 rfl ?_
    obtain ⟨c18, F⟩ := F
    obtain ⟨c19, F⟩ := F
    refine x_getr hG hM ck_WP 0 (Nat.le_of_ble_eq_true rfl) rfl rfl w_402 rfl d_WP_findKinds_37 c18 c19 ?_
    refine x_aload_n hM d_WP_findKinds_40 rfl 0 rfl ?_
    obtain ⟨c16, F⟩ := F
    obtain ⟨c17, F⟩ := F
    refine x_getr hG hM ck_WP 5 (Nat.le_of_ble_eq_true rfl) rfl rfl w_407 rfl d_WP_findKinds_41 c16 c17 ?_
    obtain ⟨c14, F⟩ := F
    obtain ⟨c15, F⟩ := F
    refine x_getr hG hM ck_Wi 0 (Nat.le_of_ble_eq_true rfl) rfl rfl w_284 rfl d_WP_findKinds_44 c14 c15 ?_
    obtain ⟨c13, F⟩ := F
    refine x_callV hG hM (r' := r_Ki_split) (ci := 9) [.ref (rf h1 v0 0), .ref (rf h1 (rf h1 v0 5) 0)] rfl rfl (Nat.le_of_ble_eq_true rfl) yk_Ki_split ⟨Nat.le_of_ble_eq_true rfl, Nat.le_of_ble_eq_true rfl⟩ w_698 w_699 w_700 rfl rfl (Nat.le_of_ble_eq_true rfl) d_WP_findKinds_47 c13 (sem_mono F ?_)
    intro u5 h4 F
    obtain ⟨rfl, F⟩ := F
    refine x_aload_n hM d_WP_findKinds_50 rfl 0 rfl ?_
    obtain ⟨c11, F⟩ := F
    obtain ⟨c12, F⟩ := F
    refine x_getr hG hM ck_WP 6 (Nat.le_of_ble_eq_true rfl) rfl rfl w_408 rfl d_WP_findKinds_51 c11 c12 ?_
    refine x_aload_n hM d_WP_findKinds_54 rfl 0 rfl ?_
    obtain ⟨c9, F⟩ := F
    obtain ⟨c10, F⟩ := F
    refine x_getr hG hM ck_WP 3 (Nat.le_of_ble_eq_true rfl) rfl rfl w_405 rfl d_WP_findKinds_55 c9 c10 ?_
    obtain ⟨c8, F⟩ := F
    refine x_getl hG hM ck_Ch 0 (Nat.le_of_ble_eq_true rfl) rfl rfl w_234 rfl d_WP_findKinds_58 c8 ?_
    obtain ⟨c7, F⟩ := F
    obtain ⟨h6, eh6⟩ : ∃ z : Hp, z = wL h4 (rf h4 v0 6) 1 (kL h4 (rf h4 v0 3) 0) := ⟨_, rfl⟩
    replace F := F h6 eh6
    refine x_putl hG hM ck_Ki 1 (Nat.le_of_ble_eq_true rfl) rfl rfl w_324 rfl d_WP_findKinds_61 (Or.inl rfl) c7 ?_
    rw [← eh6]
    clear eh6
    exact x_return hM d_WP_findKinds_64 rfl F
theorem d_WP_of_0 : decode b_WP_of 0 = .ok (.aload_n 0, 1) := by decide +kernel
theorem d_WP_of_1 : decode b_WP_of 1 = .ok (.getfield 12, 3) := by decide +kernel
theorem d_WP_of_4 : decode b_WP_of 4 = .ok (.iload_n 1, 1) := by decide +kernel
theorem d_WP_of_5 : decode b_WP_of 5 = .ok (.invokevirtual 96, 3) := by decide +kernel
theorem d_WP_of_8 : decode b_WP_of 8 = .ok (.ifCond .eq 12, 3) := by decide +kernel
theorem d_WP_of_11 : decode b_WP_of 11 = .ok (.iload_n 2, 1) := by decide +kernel
theorem d_WP_of_12 : decode b_WP_of 12 = .ok (.ifCond .lt 8, 3) := by decide +kernel
theorem d_WP_of_15 : decode b_WP_of 15 = .ok (.iload_n 2, 1) := by decide +kernel
theorem d_WP_of_16 : decode b_WP_of 16 = .ok (.iconst 4, 1) := by decide +kernel
theorem d_WP_of_17 : decode b_WP_of 17 = .ok (.if_icmp .le 6, 3) := by decide +kernel
theorem d_WP_of_20 : decode b_WP_of 20 = .ok (.bipush (-2), 2) := by decide +kernel
theorem d_WP_of_22 : decode b_WP_of 22 = .ok (.ireturn, 1) := by decide +kernel
theorem d_WP_of_23 : decode b_WP_of 23 = .ok (.aload_n 0, 1) := by decide +kernel
theorem d_WP_of_24 : decode b_WP_of 24 = .ok (.getfield 12, 3) := by decide +kernel
theorem d_WP_of_27 : decode b_WP_of 27 = .ok (.invokevirtual 166, 3) := by decide +kernel
theorem d_WP_of_30 : decode b_WP_of 30 = .ok (.iload_n 2, 1) := by decide +kernel
theorem d_WP_of_31 : decode b_WP_of 31 = .ok (.ifCond .ne 17, 3) := by decide +kernel
theorem d_WP_of_34 : decode b_WP_of 34 = .ok (.aload_n 0, 1) := by decide +kernel
theorem d_WP_of_35 : decode b_WP_of 35 = .ok (.invokevirtual 172, 3) := by decide +kernel
theorem d_WP_of_38 : decode b_WP_of 38 = .ok (.aload_n 0, 1) := by decide +kernel
theorem d_WP_of_39 : decode b_WP_of 39 = .ok (.getfield 40, 3) := by decide +kernel
theorem d_WP_of_42 : decode b_WP_of 42 = .ok (.getfield 201, 3) := by decide +kernel
theorem d_WP_of_45 : decode b_WP_of 45 = .ok (.iload_n 1, 1) := by decide +kernel
theorem d_WP_of_46 : decode b_WP_of 46 = .ok (.iaload, 1) := by decide +kernel
theorem d_WP_of_47 : decode b_WP_of 47 = .ok (.ireturn, 1) := by decide +kernel
theorem d_WP_of_48 : decode b_WP_of 48 = .ok (.iload_n 2, 1) := by decide +kernel
theorem d_WP_of_49 : decode b_WP_of 49 = .ok (.iconst 4, 1) := by decide +kernel
theorem d_WP_of_50 : decode b_WP_of 50 = .ok (.if_icmp .ne 25, 3) := by decide +kernel
theorem d_WP_of_53 : decode b_WP_of 53 = .ok (.aload_n 0, 1) := by decide +kernel
theorem d_WP_of_54 : decode b_WP_of 54 = .ok (.invokevirtual 195, 3) := by decide +kernel
theorem d_WP_of_57 : decode b_WP_of 57 = .ok (.aload_n 0, 1) := by decide +kernel
theorem d_WP_of_58 : decode b_WP_of 58 = .ok (.getfield 54, 3) := by decide +kernel
theorem d_WP_of_61 : decode b_WP_of 61 = .ok (.getfield 205, 3) := by decide +kernel
theorem d_WP_of_64 : decode b_WP_of 64 = .ok (.aload_n 0, 1) := by decide +kernel
theorem d_WP_of_65 : decode b_WP_of 65 = .ok (.getfield 54, 3) := by decide +kernel
theorem d_WP_of_68 : decode b_WP_of 68 = .ok (.getfield 208, 3) := by decide +kernel
theorem d_WP_of_71 : decode b_WP_of 71 = .ok (.iload_n 1, 1) := by decide +kernel
theorem d_WP_of_72 : decode b_WP_of 72 = .ok (.iaload, 1) := by decide +kernel
theorem d_WP_of_73 : decode b_WP_of 73 = .ok (.iaload, 1) := by decide +kernel
theorem d_WP_of_74 : decode b_WP_of 74 = .ok (.ireturn, 1) := by decide +kernel
theorem d_WP_of_75 : decode b_WP_of 75 = .ok (.aload_n 0, 1) := by decide +kernel
theorem d_WP_of_76 : decode b_WP_of 76 = .ok (.iload_n 2, 1) := by decide +kernel
theorem d_WP_of_77 : decode b_WP_of 77 = .ok (.invokevirtual 184, 3) := by decide +kernel
theorem d_WP_of_80 : decode b_WP_of 80 = .ok (.iload_n 1, 1) := by decide +kernel
theorem d_WP_of_81 : decode b_WP_of 81 = .ok (.iaload, 1) := by decide +kernel
theorem d_WP_of_82 : decode b_WP_of 82 = .ok (.ireturn, 1) := by decide +kernel
set_option maxRecDepth 100000 in
set_option maxHeartbeats 4000000 in
theorem S_WP_of_0 {G : Gc} {M : Mc} {Q : State → Prop} {K : Option Value → Hp → Prop} (hG : gok G) (hM : mok G M r_WP_of Q K) (v0 : Nat) (v1 : Int32) (v2 : Int32) (h : Hp) (F : kT h v0 = 1 ∧ kR h v0 0 = some (rf h v0 0) ∧ (kT h (rf h v0 0) = 2 ∧ sem G r_Wo_isState [.ref (rf h v0 0), .int v1] h (fun u2 h1 => ∃ x3 : Int32, u2 = some (.int x3) ∧ ((x3 = 0 → K (some (.int (-2))) h1) ∧ (¬ x3 = 0 → ((v2 < 0 → K (some (.int (-2))) h1) ∧ (¬ v2 < 0 → ((v2 ≤ 4 → (kT h1 v0 = 1 ∧ kR h1 v0 0 = some (rf h1 v0 0) ∧ (kT h1 (rf h1 v0 0) = 2 ∧ sem G r_Wo_prepare [.ref (rf h1 v0 0)] h1 (fun u5 h4 => u5 = none ∧ ((v2 = 0 → (kT h4 v0 = 1 ∧ sem G r_WP_findReached [.ref v0] h4 (fun u29 h28 => u29 = none ∧ (kT h28 v0 = 1 ∧ kR h28 v0 4 = some (rf h28 v0 4) ∧ (kT h28 (rf h28 v0 4) = 8 ∧ kR h28 (rf h28 v0 4) 0 = some (rf h28 (rf h28 v0 4) 0) ∧ (kT h28 (rf h28 (rf h28 v0 4) 0) = 50 ∧ vp_in v1 (kN h28 (rf h28 (rf h28 v0 4) 0)) ∧ K (some (.int (kI h28 (rf h28 (rf h28 v0 4) 0) (Int32.toNatClampNeg v1)))) h28)))))) ∧ (¬ v2 = 0 → ((v2 = 4 → (kT h4 v0 = 1 ∧ sem G r_WP_findKinds [.ref v0] h4 (fun u13 h12 => u13 = none ∧ (kT h12 v0 = 1 ∧ kR h12 v0 6 = some (rf h12 v0 6) ∧ (kT h12 (rf h12 v0 6) = 10 ∧ kR h12 (rf h12 v0 6) 3 = some (rf h12 (rf h12 v0 6) 3) ∧ (kT h12 v0 = 1 ∧ kR h12 v0 6 = some (rf h12 v0 6) ∧ (kT h12 (rf h12 v0 6) = 10 ∧ kR h12 (rf h12 v0 6) 2 = some (rf h12 (rf h12 v0 6) 2) ∧ (kT h12 (rf h12 (rf h12 v0 6) 2) = 50 ∧ vp_in v1 (kN h12 (rf h12 (rf h12 v0 6) 2)) ∧ (kT h12 (rf h12 (rf h12 v0 6) 3) = 50 ∧ vp_in (kI h12 (rf h12 (rf h12 v0 6) 2) (Int32.toNatClampNeg v1)) (kN h12 (rf h12 (rf h12 v0 6) 3)) ∧ K (some (.int (kI h12 (rf h12 (rf h12 v0 6) 3) (Int32.toNatClampNeg (kI h12 (rf h12 (rf h12 v0 6) 2) (Int32.toNatClampNeg v1)))))) h12))))))))) ∧ (¬ v2 = 4 → (kT h4 v0 = 1 ∧ sem G r_WP_findNumbers [.ref v0, .int v2] h4 (fun u7 h6 => ∃ x8 : Nat, u7 = some (.ref x8) ∧ (kT h6 x8 = 50 ∧ vp_in v1 (kN h6 x8) ∧ K (some (.int (kI h6 x8 (Int32.toNatClampNeg v1)))) h6))))))))))) ∧ (¬ v2 ≤ 4 → K (some (.int (-2))) h1))))))))) : X G M Q 0 [(0, .ref v0), (1, .int v1), (2, .int v2)] [] h := by
  refine x_aload_n hM d_WP_of_0 rfl 0 rfl ?_
  obtain ⟨c45, F⟩ := F
  obtain ⟨c46, F⟩ := F
  refine x_getr hG hM ck_WP 0 (Nat.le_of_ble_eq_true rfl) rfl rfl w_402 rfl d_WP_of_1 c45 c46 ?_
  refine x_iload_n hM d_WP_of_4 rfl 1 rfl ?_
  obtain ⟨c44, F⟩ := F
  refine x_callV hG hM (r' := r_Wo_isState) (ci := 1) [.int v1] rfl rfl (Nat.le_of_ble_eq_true rfl) yk_Wo_isState ⟨Nat.le_of_ble_eq_true rfl, Nat.le_of_ble_eq_true rfl⟩ w_460 w_461 w_462 rfl rfl (Nat.le_of_ble_eq_true rfl) d_WP_of_5 c44 (sem_mono F ?_)
  intro u2 h1 F
  obtain ⟨x3, rfl, F⟩ := F
  refine x_if_eq (tgt := 20) hM d_WP_of_8 (by decide) (fun q43 => ?_) (fun q43 => ?_)
  · replace F := F.1 q43
    refine x_bipush (v := (-2)) hM d_WP_of_20 (by decide) ?_
    exact x_ireturn hM d_WP_of_22 rfl F
  · replace F := F.2 q43
    refine x_iload_n hM d_WP_of_11 rfl 2 rfl ?_
    refine x_if_lt (tgt := 20) hM d_WP_of_12 (by decide) (fun q42 => ?_) (fun q42 => ?_)
    · replace F := F.1 q42
      refine x_bipush (v := (-2)) hM d_WP_of_20 (by decide) ?_
      exact x_ireturn hM d_WP_of_22 rfl F
    · replace F := F.2 q42
      refine x_iload_n hM d_WP_of_15 rfl 2 rfl ?_
      refine x_iconst (v := 4) hM d_WP_of_16 (by decide) ?_
      refine x_icmp_le (tgt := 23) hM d_WP_of_17 (by decide) (fun q41 => ?_) (fun q41 => ?_)
      · replace F := F.1 q41
        refine x_aload_n hM d_WP_of_23 rfl 0 rfl ?_
        obtain ⟨c39, F⟩ := F
        obtain ⟨c40, F⟩ := F
        refine x_getr hG hM ck_WP 0 (Nat.le_of_ble_eq_true rfl) rfl rfl w_402 rfl d_WP_of_24 c39 c40 ?_
        obtain ⟨c38, F⟩ := F
        refine x_callV hG hM (r' := r_Wo_prepare) (ci := 1) [] rfl rfl (Nat.le_of_ble_eq_true rfl) yk_Wo_prepare ⟨Nat.le_of_ble_eq_true rfl, Nat.le_of_ble_eq_true rfl⟩ w_577 w_578 w_579 rfl rfl (Nat.le_of_ble_eq_true rfl) d_WP_of_27 c38 (sem_mono F ?_)
        intro u5 h4 F
        obtain ⟨rfl, F⟩ := F
        refine x_iload_n hM d_WP_of_30 rfl 2 rfl ?_
        refine x_if_ne (tgt := 48) hM d_WP_of_31 (by decide) (fun q37 => ?_) (fun q37 => ?_)
        · replace F := F.2 q37
          refine x_iload_n hM d_WP_of_48 rfl 2 rfl ?_
          refine x_iconst (v := 4) hM d_WP_of_49 (by decide) ?_
          refine x_icmp_ne (tgt := 75) hM d_WP_of_50 (by decide) (fun q27 => ?_) (fun q27 => ?_)
          · replace F := F.2 q27
            refine x_aload_n hM d_WP_of_75 rfl 0 rfl ?_
            refine x_iload_n hM d_WP_of_76 rfl 2 rfl ?_
            obtain ⟨c11, F⟩ := F
            refine x_callV hG hM (r' := r_WP_findNumbers) (ci := 0) [.int v2] rfl rfl (Nat.le_of_ble_eq_true rfl) yk_WP_findNumbers ⟨Nat.le_of_ble_eq_true rfl, Nat.le_of_ble_eq_true rfl⟩ w_650 w_652 ws_WP_findNumbers rfl rfl (Nat.le_of_ble_eq_true rfl) d_WP_of_77 c11 (sem_mono F ?_)
            intro u7 h6 F
            obtain ⟨x8, rfl, F⟩ := F
            refine x_iload_n hM d_WP_of_80 rfl 1 rfl ?_
            obtain ⟨c9, F⟩ := F
            obtain ⟨c10, F⟩ := F
            refine x_iaload hG hM d_WP_of_81 c9 c10 ?_
            exact x_ireturn hM d_WP_of_82 rfl F
          · replace F := F.1 q27
            refine x_aload_n hM d_WP_of_53 rfl 0 rfl ?_
            obtain ⟨c26, F⟩ := F
            refine x_callV hG hM (r' := r_WP_findKinds) (ci := 0) [] rfl rfl (Nat.le_of_ble_eq_true rfl) yk_WP_findKinds ⟨Nat.le_of_ble_eq_true rfl, Nat.le_of_ble_eq_true rfl⟩ w_694 w_696 ws_WP_findKinds rfl rfl (Nat.le_of_ble_eq_true rfl) d_WP_of_54 c26 (sem_mono F ?_)
            intro u13 h12 F
            obtain ⟨rfl, F⟩ := F
            refine x_aload_n hM d_WP_of_57 rfl 0 rfl ?_
            obtain ⟨c24, F⟩ := F
            obtain ⟨c25, F⟩ := F
            refine x_getr hG hM ck_WP 6 (Nat.le_of_ble_eq_true rfl) rfl rfl w_408 rfl d_WP_of_58 c24 c25 ?_
            obtain ⟨c22, F⟩ := F
            obtain ⟨c23, F⟩ := F
            refine x_getr hG hM ck_Ki 3 (Nat.le_of_ble_eq_true rfl) rfl rfl w_328 rfl d_WP_of_61 c22 c23 ?_
            refine x_aload_n hM d_WP_of_64 rfl 0 rfl ?_
            obtain ⟨c20, F⟩ := F
            obtain ⟨c21, F⟩ := F
            refine x_getr hG hM ck_WP 6 (Nat.le_of_ble_eq_true rfl) rfl rfl w_408 rfl d_WP_of_65 c20 c21 ?_
            obtain ⟨c18, F⟩ := F
            obtain ⟨c19, F⟩ := F
            refine x_getr hG hM ck_Ki 2 (Nat.le_of_ble_eq_true rfl) rfl rfl w_326 rfl d_WP_of_68 c18 c19 ?_
            refine x_iload_n hM d_WP_of_71 rfl 1 rfl ?_
            obtain ⟨c16, F⟩ := F
            obtain ⟨c17, F⟩ := F
            refine x_iaload hG hM d_WP_of_72 c16 c17 ?_
            obtain ⟨c14, F⟩ := F
            obtain ⟨c15, F⟩ := F
            refine x_iaload hG hM d_WP_of_73 c14 c15 ?_
            exact x_ireturn hM d_WP_of_74 rfl F
        · replace F := F.1 q37
          refine x_aload_n hM d_WP_of_34 rfl 0 rfl ?_
          obtain ⟨c36, F⟩ := F
          refine x_callV hG hM (r' := r_WP_findReached) (ci := 0) [] rfl rfl (Nat.le_of_ble_eq_true rfl) yk_WP_findReached ⟨Nat.le_of_ble_eq_true rfl, Nat.le_of_ble_eq_true rfl⟩ w_616 w_618 ws_WP_findReached rfl rfl (Nat.le_of_ble_eq_true rfl) d_WP_of_35 c36 (sem_mono F ?_)
          intro u29 h28 F
          obtain ⟨rfl, F⟩ := F
          refine x_aload_n hM d_WP_of_38 rfl 0 rfl ?_
          obtain ⟨c34, F⟩ := F
          obtain ⟨c35, F⟩ := F
          refine x_getr hG hM ck_WP 4 (Nat.le_of_ble_eq_true rfl) rfl rfl w_406 rfl d_WP_of_39 c34 c35 ?_
          obtain ⟨c32, F⟩ := F
          obtain ⟨c33, F⟩ := F
          refine x_getr hG hM ck_Re 0 (Nat.le_of_ble_eq_true rfl) rfl rfl w_257 rfl d_WP_of_42 c32 c33 ?_
          refine x_iload_n hM d_WP_of_45 rfl 1 rfl ?_
          obtain ⟨c30, F⟩ := F
          obtain ⟨c31, F⟩ := F
          refine x_iaload hG hM d_WP_of_46 c30 c31 ?_
          exact x_ireturn hM d_WP_of_47 rfl F
      · replace F := F.2 q41
        refine x_bipush (v := (-2)) hM d_WP_of_20 (by decide) ?_
        exact x_ireturn hM d_WP_of_22 rfl F
theorem d_WP_best_0 : decode b_WP_best 0 = .ok (.aload_n 0, 1) := by decide +kernel
theorem d_WP_best_1 : decode b_WP_best 1 = .ok (.getfield 12, 3) := by decide +kernel
theorem d_WP_best_4 : decode b_WP_best 4 = .ok (.iload_n 1, 1) := by decide +kernel
theorem d_WP_best_5 : decode b_WP_best 5 = .ok (.invokevirtual 96, 3) := by decide +kernel
theorem d_WP_best_8 : decode b_WP_best 8 = .ok (.ifCond .eq 13, 3) := by decide +kernel
theorem d_WP_best_11 : decode b_WP_best 11 = .ok (.iload_n 2, 1) := by decide +kernel
theorem d_WP_best_12 : decode b_WP_best 12 = .ok (.iconst 1, 1) := by decide +kernel
theorem d_WP_best_13 : decode b_WP_best 13 = .ok (.if_icmp .lt 8, 3) := by decide +kernel
theorem d_WP_best_16 : decode b_WP_best 16 = .ok (.iload_n 2, 1) := by decide +kernel
theorem d_WP_best_17 : decode b_WP_best 17 = .ok (.iconst 3, 1) := by decide +kernel
theorem d_WP_best_18 : decode b_WP_best 18 = .ok (.if_icmp .le 6, 3) := by decide +kernel
theorem d_WP_best_21 : decode b_WP_best 21 = .ok (.bipush (-2), 2) := by decide +kernel
theorem d_WP_best_23 : decode b_WP_best 23 = .ok (.ireturn, 1) := by decide +kernel
theorem d_WP_best_24 : decode b_WP_best 24 = .ok (.aload_n 0, 1) := by decide +kernel
theorem d_WP_best_25 : decode b_WP_best 25 = .ok (.getfield 12, 3) := by decide +kernel
theorem d_WP_best_28 : decode b_WP_best 28 = .ok (.invokevirtual 166, 3) := by decide +kernel
theorem d_WP_best_31 : decode b_WP_best 31 = .ok (.aload_n 0, 1) := by decide +kernel
theorem d_WP_best_32 : decode b_WP_best 32 = .ok (.getfield 47, 3) := by decide +kernel
theorem d_WP_best_35 : decode b_WP_best 35 = .ok (.aload_n 0, 1) := by decide +kernel
theorem d_WP_best_36 : decode b_WP_best 36 = .ok (.getfield 12, 3) := by decide +kernel
theorem d_WP_best_39 : decode b_WP_best 39 = .ok (.aload_n 0, 1) := by decide +kernel
theorem d_WP_best_40 : decode b_WP_best 40 = .ok (.iload_n 2, 1) := by decide +kernel
theorem d_WP_best_41 : decode b_WP_best 41 = .ok (.invokevirtual 184, 3) := by decide +kernel
theorem d_WP_best_44 : decode b_WP_best 44 = .ok (.iload_n 1, 1) := by decide +kernel
theorem d_WP_best_45 : decode b_WP_best 45 = .ok (.iload_n 2, 1) := by decide +kernel
theorem d_WP_best_46 : decode b_WP_best 46 = .ok (.invokevirtual 211, 3) := by decide +kernel
theorem d_WP_best_49 : decode b_WP_best 49 = .ok (.ireturn, 1) := by decide +kernel
set_option maxRecDepth 100000 in
set_option maxHeartbeats 4000000 in
theorem S_WP_best_0 {G : Gc} {M : Mc} {Q : State → Prop} {K : Option Value → Hp → Prop} (hG : gok G) (hM : mok G M r_WP_best Q K) (v0 : Nat) (v1 : Int32) (v2 : Int32) (h : Hp) (F : kT h v0 = 1 ∧ kR h v0 0 = some (rf h v0 0) ∧ (kT h (rf h v0 0) = 2 ∧ sem G r_Wo_isState [.ref (rf h v0 0), .int v1] h (fun u2 h1 => ∃ x3 : Int32, u2 = some (.int x3) ∧ ((x3 = 0 → K (some (.int (-2))) h1) ∧ (¬ x3 = 0 → ((v2 < 1 → K (some (.int (-2))) h1) ∧ (¬ v2 < 1 → ((v2 ≤ 3 → (kT h1 v0 = 1 ∧ kR h1 v0 0 = some (rf h1 v0 0) ∧ (kT h1 (rf h1 v0 0) = 2 ∧ sem G r_Wo_prepare [.ref (rf h1 v0 0)] h1 (fun u5 h4 => u5 = none ∧ (kT h4 v0 = 1 ∧ kR h4 v0 5 = some (rf h4 v0 5) ∧ (kT h4 v0 = 1 ∧ kR h4 v0 0 = some (rf h4 v0 0) ∧ (kT h4 v0 = 1 ∧ sem G r_WP_findNumbers [.ref v0, .int v2] h4 (fun u7 h6 => ∃ x8 : Nat, u7 = some (.ref x8) ∧ (kT h6 (rf h4 v0 5) = 9 ∧ sem G r_Wi_leastAct [.ref (rf h4 v0 5), .ref (rf h4 v0 0), .ref x8, .int v1, .int v2] h6 (fun u10 h9 => ∃ x11 : Int32, u10 = some (.int x11) ∧ K (some (.int x11)) h9)))))))))) ∧ (¬ v2 ≤ 3 → K (some (.int (-2))) h1))))))))) : X G M Q 0 [(0, .ref v0), (1, .int v1), (2, .int v2)] [] h := by
  refine x_aload_n hM d_WP_best_0 rfl 0 rfl ?_
  obtain ⟨c25, F⟩ := F
  obtain ⟨c26, F⟩ := F
  refine x_getr hG hM ck_WP 0 (Nat.le_of_ble_eq_true rfl) rfl rfl w_402 rfl d_WP_best_1 c25 c26 ?_
  refine x_iload_n hM d_WP_best_4 rfl 1 rfl ?_
  obtain ⟨c24, F⟩ := F
  refine x_callV hG hM (r' := r_Wo_isState) (ci := 1) [.int v1] rfl rfl (Nat.le_of_ble_eq_true rfl) yk_Wo_isState ⟨Nat.le_of_ble_eq_true rfl, Nat.le_of_ble_eq_true rfl⟩ w_460 w_461 w_462 rfl rfl (Nat.le_of_ble_eq_true rfl) d_WP_best_5 c24 (sem_mono F ?_)
  intro u2 h1 F
  obtain ⟨x3, rfl, F⟩ := F
  refine x_if_eq (tgt := 21) hM d_WP_best_8 (by decide) (fun q23 => ?_) (fun q23 => ?_)
  · replace F := F.1 q23
    refine x_bipush (v := (-2)) hM d_WP_best_21 (by decide) ?_
    exact x_ireturn hM d_WP_best_23 rfl F
  · replace F := F.2 q23
    refine x_iload_n hM d_WP_best_11 rfl 2 rfl ?_
    refine x_iconst (v := 1) hM d_WP_best_12 (by decide) ?_
    refine x_icmp_lt (tgt := 21) hM d_WP_best_13 (by decide) (fun q22 => ?_) (fun q22 => ?_)
    · replace F := F.1 q22
      refine x_bipush (v := (-2)) hM d_WP_best_21 (by decide) ?_
      exact x_ireturn hM d_WP_best_23 rfl F
    · replace F := F.2 q22
      refine x_iload_n hM d_WP_best_16 rfl 2 rfl ?_
      refine x_iconst (v := 3) hM d_WP_best_17 (by decide) ?_
      refine x_icmp_le (tgt := 24) hM d_WP_best_18 (by decide) (fun q21 => ?_) (fun q21 => ?_)
      · replace F := F.1 q21
        refine x_aload_n hM d_WP_best_24 rfl 0 rfl ?_
        obtain ⟨c19, F⟩ := F
        obtain ⟨c20, F⟩ := F
        refine x_getr hG hM ck_WP 0 (Nat.le_of_ble_eq_true rfl) rfl rfl w_402 rfl d_WP_best_25 c19 c20 ?_
        obtain ⟨c18, F⟩ := F
        refine x_callV hG hM (r' := r_Wo_prepare) (ci := 1) [] rfl rfl (Nat.le_of_ble_eq_true rfl) yk_Wo_prepare ⟨Nat.le_of_ble_eq_true rfl, Nat.le_of_ble_eq_true rfl⟩ w_577 w_578 w_579 rfl rfl (Nat.le_of_ble_eq_true rfl) d_WP_best_28 c18 (sem_mono F ?_)
        intro u5 h4 F
        obtain ⟨rfl, F⟩ := F
        refine x_aload_n hM d_WP_best_31 rfl 0 rfl ?_
        obtain ⟨c16, F⟩ := F
        obtain ⟨c17, F⟩ := F
        refine x_getr hG hM ck_WP 5 (Nat.le_of_ble_eq_true rfl) rfl rfl w_407 rfl d_WP_best_32 c16 c17 ?_
        refine x_aload_n hM d_WP_best_35 rfl 0 rfl ?_
        obtain ⟨c14, F⟩ := F
        obtain ⟨c15, F⟩ := F
        refine x_getr hG hM ck_WP 0 (Nat.le_of_ble_eq_true rfl) rfl rfl w_402 rfl d_WP_best_36 c14 c15 ?_
        refine x_aload_n hM d_WP_best_39 rfl 0 rfl ?_
        refine x_iload_n hM d_WP_best_40 rfl 2 rfl ?_
        obtain ⟨c13, F⟩ := F
        refine x_callV hG hM (r' := r_WP_findNumbers) (ci := 0) [.int v2] rfl rfl (Nat.le_of_ble_eq_true rfl) yk_WP_findNumbers ⟨Nat.le_of_ble_eq_true rfl, Nat.le_of_ble_eq_true rfl⟩ w_650 w_652 ws_WP_findNumbers rfl rfl (Nat.le_of_ble_eq_true rfl) d_WP_best_41 c13 (sem_mono F ?_)
        intro u7 h6 F
        obtain ⟨x8, rfl, F⟩ := F
        refine x_iload_n hM d_WP_best_44 rfl 1 rfl ?_
        refine x_iload_n hM d_WP_best_45 rfl 2 rfl ?_
        obtain ⟨c12, F⟩ := F
        refine x_callV hG hM (r' := r_Wi_leastAct) (ci := 8) [.ref (rf h4 v0 0), .ref x8, .int v1, .int v2] rfl rfl (Nat.le_of_ble_eq_true rfl) yk_Wi_leastAct ⟨Nat.le_of_ble_eq_true rfl, Nat.le_of_ble_eq_true rfl⟩ w_776 w_777 w_778 rfl rfl (Nat.le_of_ble_eq_true rfl) d_WP_best_46 c12 (sem_mono F ?_)
        intro u10 h9 F
        obtain ⟨x11, rfl, F⟩ := F
        exact x_ireturn hM d_WP_best_49 rfl F
      · replace F := F.2 q21
        refine x_bipush (v := (-2)) hM d_WP_best_21 (by decide) ?_
        exact x_ireturn hM d_WP_best_23 rfl F
theorem d_WP_play_0 : decode b_WP_play 0 = .ok (.iload_n 2, 1) := by decide +kernel
theorem d_WP_play_1 : decode b_WP_play 1 = .ok (.ifCond .lt 8, 3) := by decide +kernel
theorem d_WP_play_4 : decode b_WP_play 4 = .ok (.iload_n 2, 1) := by decide +kernel
theorem d_WP_play_5 : decode b_WP_play 5 = .ok (.iconst 2, 1) := by decide +kernel
theorem d_WP_play_6 : decode b_WP_play 6 = .ok (.if_icmp .le 6, 3) := by decide +kernel
theorem d_WP_play_9 : decode b_WP_play 9 = .ok (.bipush (-2), 2) := by decide +kernel
theorem d_WP_play_11 : decode b_WP_play 11 = .ok (.ireturn, 1) := by decide +kernel
theorem d_WP_play_12 : decode b_WP_play 12 = .ok (.aload_n 0, 1) := by decide +kernel
theorem d_WP_play_13 : decode b_WP_play 13 = .ok (.getfield 12, 3) := by decide +kernel
theorem d_WP_play_16 : decode b_WP_play 16 = .ok (.invokevirtual 166, 3) := by decide +kernel
theorem d_WP_play_19 : decode b_WP_play 19 = .ok (.aload_n 0, 1) := by decide +kernel
theorem d_WP_play_20 : decode b_WP_play 20 = .ok (.iconst 1, 1) := by decide +kernel
theorem d_WP_play_21 : decode b_WP_play 21 = .ok (.invokevirtual 184, 3) := by decide +kernel
theorem d_WP_play_24 : decode b_WP_play 24 = .ok (.astore_n 3, 1) := by decide +kernel
theorem d_WP_play_25 : decode b_WP_play 25 = .ok (.iload_n 1, 1) := by decide +kernel
theorem d_WP_play_26 : decode b_WP_play 26 = .ok (.ifCond .lt 13, 3) := by decide +kernel
theorem d_WP_play_29 : decode b_WP_play 29 = .ok (.iload_n 1, 1) := by decide +kernel
theorem d_WP_play_30 : decode b_WP_play 30 = .ok (.aload_n 3, 1) := by decide +kernel
theorem d_WP_play_31 : decode b_WP_play 31 = .ok (.aload_n 0, 1) := by decide +kernel
theorem d_WP_play_32 : decode b_WP_play 32 = .ok (.getfield 65, 3) := by decide +kernel
theorem d_WP_play_35 : decode b_WP_play 35 = .ok (.iaload, 1) := by decide +kernel
theorem d_WP_play_36 : decode b_WP_play 36 = .ok (.if_icmp .lt 5, 3) := by decide +kernel
theorem d_WP_play_39 : decode b_WP_play 39 = .ok (.iconst (-1), 1) := by decide +kernel
theorem d_WP_play_40 : decode b_WP_play 40 = .ok (.ireturn, 1) := by decide +kernel
theorem d_WP_play_41 : decode b_WP_play 41 = .ok (.aload_n 0, 1) := by decide +kernel
theorem d_WP_play_42 : decode b_WP_play 42 = .ok (.getfield 65, 3) := by decide +kernel
theorem d_WP_play_45 : decode b_WP_play 45 = .ok (.istore 4, 2) := by decide +kernel
theorem d_WP_play_47 : decode b_WP_play 47 = .ok (.iconst (-1), 1) := by decide +kernel
theorem d_WP_play_48 : decode b_WP_play 48 = .ok (.istore 5, 2) := by decide +kernel
theorem d_WP_play_50 : decode b_WP_play 50 = .ok (.iconst 0, 1) := by decide +kernel
theorem d_WP_play_51 : decode b_WP_play 51 = .ok (.istore 6, 2) := by decide +kernel
theorem d_WP_play_53 : decode b_WP_play 53 = .ok (.iload 6, 2) := by decide +kernel
theorem d_WP_play_55 : decode b_WP_play 55 = .ok (.iload_n 1, 1) := by decide +kernel
theorem d_WP_play_56 : decode b_WP_play 56 = .ok (.if_icmp .gt 43, 3) := by decide +kernel
theorem d_WP_play_59 : decode b_WP_play 59 = .ok (.aload_n 0, 1) := by decide +kernel
theorem d_WP_play_60 : decode b_WP_play 60 = .ok (.getfield 47, 3) := by decide +kernel
theorem d_WP_play_63 : decode b_WP_play 63 = .ok (.aload_n 0, 1) := by decide +kernel
theorem d_WP_play_64 : decode b_WP_play 64 = .ok (.getfield 12, 3) := by decide +kernel
theorem d_WP_play_67 : decode b_WP_play 67 = .ok (.iload 4, 2) := by decide +kernel
theorem d_WP_play_69 : decode b_WP_play 69 = .ok (.invokevirtual 215, 3) := by decide +kernel
theorem d_WP_play_72 : decode b_WP_play 72 = .ok (.istore 5, 2) := by decide +kernel
theorem d_WP_play_74 : decode b_WP_play 74 = .ok (.iload 5, 2) := by decide +kernel
theorem d_WP_play_76 : decode b_WP_play 76 = .ok (.iconst (-1), 1) := by decide +kernel
theorem d_WP_play_77 : decode b_WP_play 77 = .ok (.if_icmp .ne 5, 3) := by decide +kernel
theorem d_WP_play_80 : decode b_WP_play 80 = .ok (.iconst (-1), 1) := by decide +kernel
theorem d_WP_play_81 : decode b_WP_play 81 = .ok (.ireturn, 1) := by decide +kernel
theorem d_WP_play_82 : decode b_WP_play 82 = .ok (.aload_n 0, 1) := by decide +kernel
theorem d_WP_play_83 : decode b_WP_play 83 = .ok (.getfield 12, 3) := by decide +kernel
theorem d_WP_play_86 : decode b_WP_play 86 = .ok (.iload 5, 2) := by decide +kernel
theorem d_WP_play_88 : decode b_WP_play 88 = .ok (.invokevirtual 219, 3) := by decide +kernel
theorem d_WP_play_91 : decode b_WP_play 91 = .ok (.istore 4, 2) := by decide +kernel
theorem d_WP_play_93 : decode b_WP_play 93 = .ok (.iinc 6 1, 3) := by decide +kernel
theorem d_WP_play_96 : decode b_WP_play 96 = .ok (.goto (-43), 3) := by decide +kernel
theorem d_WP_play_99 : decode b_WP_play 99 = .ok (.iload_n 2, 1) := by decide +kernel
theorem d_WP_play_100 : decode b_WP_play 100 = .ok (.ifCond .ne 9, 3) := by decide +kernel
theorem d_WP_play_103 : decode b_WP_play 103 = .ok (.iload 5, 2) := by decide +kernel
theorem d_WP_play_105 : decode b_WP_play 105 = .ok (.invokestatic 222, 3) := by decide +kernel
theorem d_WP_play_108 : decode b_WP_play 108 = .ok (.ireturn, 1) := by decide +kernel
theorem d_WP_play_109 : decode b_WP_play 109 = .ok (.iload_n 2, 1) := by decide +kernel
theorem d_WP_play_110 : decode b_WP_play 110 = .ok (.iconst 1, 1) := by decide +kernel
theorem d_WP_play_111 : decode b_WP_play 111 = .ok (.if_icmp .ne 11, 3) := by decide +kernel
theorem d_WP_play_114 : decode b_WP_play 114 = .ok (.iload 5, 2) := by decide +kernel
theorem d_WP_play_116 : decode b_WP_play 116 = .ok (.invokestatic 225, 3) := by decide +kernel
theorem d_WP_play_119 : decode b_WP_play 119 = .ok (.goto 5, 3) := by decide +kernel
theorem d_WP_play_122 : decode b_WP_play 122 = .ok (.iload 4, 2) := by decide +kernel
theorem d_WP_play_124 : decode b_WP_play 124 = .ok (.ireturn, 1) := by decide +kernel
set_option maxRecDepth 100000 in
set_option maxHeartbeats 4000000 in
theorem S_WP_play_0 {G : Gc} {M : Mc} {Q : State → Prop} {K : Option Value → Hp → Prop} (hG : gok G) (hM : mok G M r_WP_play Q K) (v0 : Nat) (v1 : Int32) (v2 : Int32) (h : Hp) (F : (v2 < 0 → K (some (.int (-2))) h) ∧ (¬ v2 < 0 → ((v2 ≤ 2 → (kT h v0 = 1 ∧ kR h v0 0 = some (rf h v0 0) ∧ (kT h (rf h v0 0) = 2 ∧ sem G r_Wo_prepare [.ref (rf h v0 0)] h (fun u2 h1 => u2 = none ∧ (kT h1 v0 = 1 ∧ sem G r_WP_findNumbers [.ref v0, .int 1] h1 (fun u4 h3 => ∃ x5 : Nat, u4 = some (.ref x5) ∧ ((v1 < 0 → K (some (.int (-1))) h3) ∧ (¬ v1 < 0 → (kT h3 v0 = 1 ∧ (kT h3 x5 = 50 ∧ vp_in (kI h3 v0 8) (kN h3 x5) ∧ ((v1 < (kI h3 x5 (Int32.toNatClampNeg (kI h3 v0 8))) → (kT h3 v0 = 1 ∧ X G M Q 53 [(0, .ref v0), (1, .int v1), (2, .int v2), (4, .int (kI h3 v0 8)), (5, .int (-1)), (6, .int 0)] [] h3)) ∧ (¬ v1 < (kI h3 x5 (Int32.toNatClampNeg (kI h3 v0 8))) → K (some (.int (-1))) h3)))))))))))) ∧ (¬ v2 ≤ 2 → K (some (.int (-2))) h)))) : X G M Q 0 [(0, .ref v0), (1, .int v1), (2, .int v2)] [] h := by
  refine x_iload_n hM d_WP_play_0 rfl 2 rfl ?_
  refine x_if_lt (tgt := 9) hM d_WP_play_1 (by decide) (fun q17 => ?_) (fun q17 => ?_)
  · replace F := F.1 q17
    refine x_bipush (v := (-2)) hM d_WP_play_9 (by decide) ?_
    exact x_ireturn hM d_WP_play_11 rfl F
  · replace F := F.2 q17
    refine x_iload_n hM d_WP_play_4 rfl 2 rfl ?_
    refine x_iconst (v := 2) hM d_WP_play_5 (by decide) ?_
    refine x_icmp_le (tgt := 12) hM d_WP_play_6 (by decide) (fun q16 => ?_) (fun q16 => ?_)
    · replace F := F.1 q16
      refine x_aload_n hM d_WP_play_12 rfl 0 rfl ?_
      obtain ⟨c14, F⟩ := F
      obtain ⟨c15, F⟩ := F
      refine x_getr hG hM ck_WP 0 (Nat.le_of_ble_eq_true rfl) rfl rfl w_402 rfl d_WP_play_13 c14 c15 ?_
      obtain ⟨c13, F⟩ := F
      refine x_callV hG hM (r' := r_Wo_prepare) (ci := 1) [] rfl rfl (Nat.le_of_ble_eq_true rfl) yk_Wo_prepare ⟨Nat.le_of_ble_eq_true rfl, Nat.le_of_ble_eq_true rfl⟩ w_577 w_578 w_579 rfl rfl (Nat.le_of_ble_eq_true rfl) d_WP_play_16 c13 (sem_mono F ?_)
      intro u2 h1 F
      obtain ⟨rfl, F⟩ := F
      refine x_aload_n hM d_WP_play_19 rfl 0 rfl ?_
      refine x_iconst (v := 1) hM d_WP_play_20 (by decide) ?_
      obtain ⟨c12, F⟩ := F
      refine x_callV hG hM (r' := r_WP_findNumbers) (ci := 0) [.int 1] rfl rfl (Nat.le_of_ble_eq_true rfl) yk_WP_findNumbers ⟨Nat.le_of_ble_eq_true rfl, Nat.le_of_ble_eq_true rfl⟩ w_650 w_652 ws_WP_findNumbers rfl rfl (Nat.le_of_ble_eq_true rfl) d_WP_play_21 c12 (sem_mono F ?_)
      intro u4 h3 F
      obtain ⟨x5, rfl, F⟩ := F
      refine x_astore_n (lv2 := [(3, .ref x5), (0, .ref v0), (1, .int v1), (2, .int v2)]) hM d_WP_play_24 rfl (Nat.le_of_ble_eq_true rfl) rfl ?_
      refine x_iload_n hM d_WP_play_25 rfl 2 rfl ?_
      refine x_if_lt (tgt := 39) hM d_WP_play_26 (by decide) (fun q11 => ?_) (fun q11 => ?_)
      · replace F := F.1 q11
        refine x_iconst (v := (-1)) hM d_WP_play_39 (by decide) ?_
        exact x_ireturn hM d_WP_play_40 rfl F
      · replace F := F.2 q11
        refine x_iload_n hM d_WP_play_29 rfl 2 rfl ?_
        refine x_aload_n hM d_WP_play_30 rfl 0 rfl ?_
        refine x_aload_n hM d_WP_play_31 rfl 1 rfl ?_
        obtain ⟨c10, F⟩ := F
        refine x_geti hG hM ck_WP 8 (Nat.le_of_ble_eq_true rfl) rfl rfl w_410 rfl d_WP_play_32 c10 ?_
        obtain ⟨c8, F⟩ := F
        obtain ⟨c9, F⟩ := F
        refine x_iaload hG hM d_WP_play_35 c8 c9 ?_
        refine x_icmp_lt (tgt := 41) hM d_WP_play_36 (by decide) (fun q7 => ?_) (fun q7 => ?_)
        · replace F := F.1 q7
          refine x_aload_n hM d_WP_play_41 rfl 1 rfl ?_
          obtain ⟨c6, F⟩ := F
          refine x_geti hG hM ck_WP 8 (Nat.le_of_ble_eq_true rfl) rfl rfl w_410 rfl d_WP_play_42 c6 ?_
          refine x_istore (lv2 := [(4, .int (kI h3 v0 8)), (3, .ref x5), (0, .ref v0), (1, .int v1), (2, .int v2)]) hM d_WP_play_45 (Nat.le_of_ble_eq_true rfl) rfl ?_
          refine x_iconst (v := (-1)) hM d_WP_play_47 (by decide) ?_
          refine x_istore (lv2 := [(5, .int (-1)), (4, .int (kI h3 v0 8)), (3, .ref x5), (0, .ref v0), (1, .int v1), (2, .int v2)]) hM d_WP_play_48 (Nat.le_of_ble_eq_true rfl) rfl ?_
          refine x_iconst (v := 0) hM d_WP_play_50 (by decide) ?_
          refine x_istore (lv2 := [(6, .int 0), (5, .int (-1)), (4, .int (kI h3 v0 8)), (3, .ref x5), (0, .ref v0), (1, .int v1), (2, .int v2)]) hM d_WP_play_51 (Nat.le_of_ble_eq_true rfl) rfl ?_
          refine x_sub [4, 5, 6, 2, 1, 0] rfl ?_
          exact F
        · replace F := F.2 q7
          refine x_iconst (v := (-1)) hM d_WP_play_39 (by decide) ?_
          exact x_ireturn hM d_WP_play_40 rfl F
    · replace F := F.2 q16
      refine x_bipush (v := (-2)) hM d_WP_play_9 (by decide) ?_
      exact x_ireturn hM d_WP_play_11 rfl F
set_option maxRecDepth 100000 in
set_option maxHeartbeats 4000000 in
theorem S_WP_play_53 {G : Gc} {M : Mc} {Q : State → Prop} {K : Option Value → Hp → Prop} (hG : gok G) (hM : mok G M r_WP_play Q K) (v0 : Nat) (v1 : Int32) (v2 : Int32) (v4 : Int32) (v5 : Int32) (v6 : Int32) (h : Hp) (F : (v1 < v6 → ((v2 = 0 → (sem G r_WP_actOf [.int v5] h (fun u6 h5 => ∃ x7 : Int32, u6 = some (.int x7) ∧ K (some (.int x7)) h5))) ∧ (¬ v2 = 0 → ((v2 = 1 → (sem G r_WP_outcomeOf [.int v5] h (fun u2 h1 => ∃ x3 : Int32, u2 = some (.int x3) ∧ K (some (.int x3)) h1))) ∧ (¬ v2 = 1 → K (some (.int v4)) h))))) ∧ (¬ v1 < v6 → (kT h v0 = 1 ∧ kR h v0 5 = some (rf h v0 5) ∧ (kT h v0 = 1 ∧ kR h v0 0 = some (rf h v0 0) ∧ (kT h (rf h v0 5) = 9 ∧ sem G r_Wi_firstStep [.ref (rf h v0 5), .ref (rf h v0 0), .int v4] h (fun u10 h9 => ∃ x11 : Int32, u10 = some (.int x11) ∧ ((x11 = (-1) → K (some (.int (-1))) h9) ∧ (¬ x11 = (-1) → (kT h9 v0 = 1 ∧ kR h9 v0 0 = some (rf h9 v0 0) ∧ (kT h9 (rf h9 v0 0) = 2 ∧ sem G r_Wo_behind [.ref (rf h9 v0 0), .int x11] h9 (fun u13 h12 => ∃ x14 : Int32, u13 = some (.int x14) ∧ X G M Q 53 [(0, .ref v0), (1, .int v1), (2, .int v2), (4, .int x14), (5, .int x11), (6, .int (v6 + 1))] [] h12))))))))))) : X G M Q 53 [(0, .ref v0), (1, .int v1), (2, .int v2), (4, .int v4), (5, .int v5), (6, .int v6)] [] h := by
  refine x_iload hM d_WP_play_53 5 rfl ?_
  refine x_iload_n hM d_WP_play_55 rfl 1 rfl ?_
  refine x_icmp_gt (tgt := 99) hM d_WP_play_56 (by decide) (fun q24 => ?_) (fun q24 => ?_)
  · replace F := F.1 q24
    refine x_iload_n hM d_WP_play_99 rfl 2 rfl ?_
    refine x_if_ne (tgt := 109) hM d_WP_play_100 (by decide) (fun q8 => ?_) (fun q8 => ?_)
    · replace F := F.2 q8
      refine x_iload_n hM d_WP_play_109 rfl 2 rfl ?_
      refine x_iconst (v := 1) hM d_WP_play_110 (by decide) ?_
      refine x_icmp_ne (tgt := 122) hM d_WP_play_111 (by decide) (fun q4 => ?_) (fun q4 => ?_)
      · replace F := F.2 q4
        refine x_iload hM d_WP_play_122 3 rfl ?_
        exact x_ireturn hM d_WP_play_124 rfl F
      · replace F := F.1 q4
        refine x_iload hM d_WP_play_114 4 rfl ?_
        refine x_callS hG hM (r' := r_WP_outcomeOf) [.int v5] rfl yk_WP_outcomeOf ⟨Nat.le_of_ble_eq_true rfl, Nat.le_of_ble_eq_true rfl⟩ w_804 w_800 rfl rfl (Nat.le_of_ble_eq_true rfl) d_WP_play_116 (sem_mono F ?_)
        intro u2 h1 F
        obtain ⟨x3, rfl, F⟩ := F
        refine x_goto (tgt := 124) hM d_WP_play_119 (by decide) ?_
        exact x_ireturn hM d_WP_play_124 rfl F
    · replace F := F.1 q8
      refine x_iload hM d_WP_play_103 4 rfl ?_
      refine x_callS hG hM (r' := r_WP_actOf) [.int v5] rfl yk_WP_actOf ⟨Nat.le_of_ble_eq_true rfl, Nat.le_of_ble_eq_true rfl⟩ w_803 w_672 rfl rfl (Nat.le_of_ble_eq_true rfl) d_WP_play_105 (sem_mono F ?_)
      intro u6 h5 F
      obtain ⟨x7, rfl, F⟩ := F
      exact x_ireturn hM d_WP_play_108 rfl F
  · replace F := F.2 q24
    refine x_aload_n hM d_WP_play_59 rfl 0 rfl ?_
    obtain ⟨c22, F⟩ := F
    obtain ⟨c23, F⟩ := F
    refine x_getr hG hM ck_WP 5 (Nat.le_of_ble_eq_true rfl) rfl rfl w_407 rfl d_WP_play_60 c22 c23 ?_
    refine x_aload_n hM d_WP_play_63 rfl 0 rfl ?_
    obtain ⟨c20, F⟩ := F
    obtain ⟨c21, F⟩ := F
    refine x_getr hG hM ck_WP 0 (Nat.le_of_ble_eq_true rfl) rfl rfl w_402 rfl d_WP_play_64 c20 c21 ?_
    refine x_iload hM d_WP_play_67 3 rfl ?_
    obtain ⟨c19, F⟩ := F
    refine x_callV hG hM (r' := r_Wi_firstStep) (ci := 8) [.ref (rf h v0 0), .int v4] rfl rfl (Nat.le_of_ble_eq_true rfl) yk_Wi_firstStep ⟨Nat.le_of_ble_eq_true rfl, Nat.le_of_ble_eq_true rfl⟩ w_789 w_790 w_791 rfl rfl (Nat.le_of_ble_eq_true rfl) d_WP_play_69 c19 (sem_mono F ?_)
    intro u10 h9 F
    obtain ⟨x11, rfl, F⟩ := F
    refine x_istore (lv2 := [(5, .int x11), (0, .ref v0), (1, .int v1), (2, .int v2), (4, .int v4), (6, .int v6)]) hM d_WP_play_72 (Nat.le_of_ble_eq_true rfl) rfl ?_
    refine x_iload hM d_WP_play_74 0 rfl ?_
    refine x_iconst (v := (-1)) hM d_WP_play_76 (by decide) ?_
    refine x_icmp_ne (tgt := 82) hM d_WP_play_77 (by decide) (fun q18 => ?_) (fun q18 => ?_)
    · replace F := F.2 q18
      refine x_aload_n hM d_WP_play_82 rfl 1 rfl ?_
      obtain ⟨c16, F⟩ := F
      obtain ⟨c17, F⟩ := F
      refine x_getr hG hM ck_WP 0 (Nat.le_of_ble_eq_true rfl) rfl rfl w_402 rfl d_WP_play_83 c16 c17 ?_
      refine x_iload hM d_WP_play_86 0 rfl ?_
      obtain ⟨c15, F⟩ := F
      refine x_callV hG hM (r' := r_Wo_behind) (ci := 1) [.int x11] rfl rfl (Nat.le_of_ble_eq_true rfl) yk_Wo_behind ⟨Nat.le_of_ble_eq_true rfl, Nat.le_of_ble_eq_true rfl⟩ w_794 w_795 w_796 rfl rfl (Nat.le_of_ble_eq_true rfl) d_WP_play_88 c15 (sem_mono F ?_)
      intro u13 h12 F
      obtain ⟨x14, rfl, F⟩ := F
      refine x_istore (lv2 := [(4, .int x14), (5, .int x11), (0, .ref v0), (1, .int v1), (2, .int v2), (6, .int v6)]) hM d_WP_play_91 (Nat.le_of_ble_eq_true rfl) rfl ?_
      refine x_iinc (v := (v6 + 1)) (lv2 := [(6, .int (v6 + 1)), (4, .int x14), (5, .int x11), (0, .ref v0), (1, .int v1), (2, .int v2)]) hM d_WP_play_93 (j := 5) rfl rfl (Nat.le_of_ble_eq_true rfl) rfl ?_
      refine x_goto (tgt := 53) hM d_WP_play_96 (by decide) ?_
      refine x_sub [3, 4, 5, 1, 2, 0] rfl ?_
      exact F
    · replace F := F.1 q18
      refine x_iconst (v := (-1)) hM d_WP_play_80 (by decide) ?_
      exact x_ireturn hM d_WP_play_81 rfl F
