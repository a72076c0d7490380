set_option maxRecDepth 100000 in
set_option maxHeartbeats 4000000 in
theorem T_WP_findReached_0 {G : Gc} {M : Mc} {Q : State → Prop} {ad0 : Ro → Nat} {K : (Ro → Nat) → Option Value → Rs → Prop} (hG : gok G) (hM : mok G M r_WP_findReached Q (KV G [32] ad0 K))  (ρ : Rs) (F : ∀ z1 : Int64, z1 = (if (lR ρ (4, 0, 0) 2) < (lR ρ (4, 0, 0) 1) then (lR ρ (4, 0, 0) 1) else (lR ρ (4, 0, 0) 2)) → ((0 ≤ (lg_cmp (lR ρ (5, 0, 0) 4) z1) → (∀ ad, K ad none ρ)) ∧ (¬ 0 ≤ (lg_cmp (lR ρ (5, 0, 0) 4) z1) → (semV G r_Re_spread [32] (fun ad => [.ref (ad (5, 0, 0)), .ref (ad (1, 0, 0)), .int (iR ρ (0, 0, 0) 8)]) ρ (fun ad u3 ρ2 => u3 = none ∧ (∀ ρ6 : Rs, ρ6 = pL ρ2 (5, 0, 0) 4 (lR ρ2 (4, 0, 0) 0) → (∀ ad, K ad none ρ6))))))) : Y G [32] ad0 M Q 0 (fun ad => [(0, .ref (ad (0, 0, 0)))]) (fun ad => []) ρ := by
  intro ad h hSt V
  show X G M Q 0 [(0, .ref (ad (0, 0, 0)))] [] h
  refine x_aload_n hM d_WP_findReached_0 rfl 0 rfl ?_
  refine y_getr hG hM V ck_WP 4 (Nat.le_of_ble_eq_true rfl) rfl rfl w_406 rfl d_WP_findReached_1 (0, 0, 0) (5, 0, 0) rfl rfl rfl ?_
  refine y_getl hG hM V ck_Re 4 (Nat.le_of_ble_eq_true rfl) rfl rfl w_264 rfl d_WP_findReached_4 (5, 0, 0) rfl rfl ?_
  refine x_aload_n hM d_WP_findReached_7 rfl 0 rfl ?_
  refine y_getr hG hM V ck_WP 3 (Nat.le_of_ble_eq_true rfl) rfl rfl w_405 rfl d_WP_findReached_8 (0, 0, 0) (4, 0, 0) rfl rfl rfl ?_
  refine y_getl hG hM V ck_Ch 1 (Nat.le_of_ble_eq_true rfl) rfl rfl w_236 rfl d_WP_findReached_11 (4, 0, 0) rfl rfl ?_
  refine x_aload_n hM d_WP_findReached_14 rfl 0 rfl ?_
  refine y_getr hG hM V ck_WP 3 (Nat.le_of_ble_eq_true rfl) rfl rfl w_405 rfl d_WP_findReached_15 (0, 0, 0) (4, 0, 0) rfl rfl rfl ?_
  refine y_getl hG hM V ck_Ch 2 (Nat.le_of_ble_eq_true rfl) rfl rfl w_238 rfl d_WP_findReached_18 (4, 0, 0) rfl rfl ?_
  obtain ⟨z1, ez1⟩ : ∃ z : Int64, z = (if (lR ρ (4, 0, 0) 2) < (lR ρ (4, 0, 0) 1) then (lR ρ (4, 0, 0) 1) else (lR ρ (4, 0, 0) 2)) := ⟨_, rfl⟩
  replace F := F z1 ez1
  refine x_mmaxL hG hM rfl w_620 w_621 w_14 w_mmaxL (Nat.le_of_ble_eq_true rfl) (Nat.le_of_ble_eq_true rfl) d_WP_findReached_21 ?_
  rw [← ez1]
  clear ez1
  refine x_lcmp hM d_WP_findReached_24 ?_
  refine x_if_ge (tgt := 57) hM d_WP_findReached_25 (by decide) (fun q7 => ?_) (fun q7 => ?_)
  · replace F := F.1 q7
    exact x_return hM d_WP_findReached_57 rfl (y_end V hSt (F _))
  · replace F := F.2 q7
    refine x_aload_n hM d_WP_findReached_28 rfl 0 rfl ?_
    refine y_getr hG hM V ck_WP 4 (Nat.le_of_ble_eq_true rfl) rfl rfl w_406 rfl d_WP_findReached_29 (0, 0, 0) (5, 0, 0) rfl rfl rfl ?_
    refine x_aload_n hM d_WP_findReached_32 rfl 0 rfl ?_
    refine y_getr hG hM V ck_WP 0 (Nat.le_of_ble_eq_true rfl) rfl rfl w_402 rfl d_WP_findReached_33 (0, 0, 0) (1, 0, 0) rfl rfl rfl ?_
    refine x_aload_n hM d_WP_findReached_36 rfl 0 rfl ?_
    refine y_geti hG hM V ck_WP 8 (Nat.le_of_ble_eq_true rfl) rfl rfl w_410 rfl d_WP_findReached_37 (0, 0, 0) rfl rfl ?_
    refine x_callV hG hM (r' := r_Re_spread) (ci := 7) [.ref (ad (1, 0, 0)), .int (iR ρ (0, 0, 0) 8)] rfl rfl (Nat.le_of_ble_eq_true rfl) yk_Re_spread ⟨Nat.le_of_ble_eq_true rfl, Nat.le_of_ble_eq_true rfl⟩ w_623 w_624 w_625 rfl rfl (Nat.le_of_ble_eq_true rfl) d_WP_findReached_40 (by rw [vT V rfl]; rfl) (sem_mono (F _ _ V) ?_)
    intro u3 h F
    obtain ⟨ad5, ρ2, V, hs4, F⟩ := F
    obtain ⟨rfl, F⟩ := F
    have ea0 : ad5 (0, 0, 0) = ad (0, 0, 0) := hs4 _ (Or.inr rfl)
    rw [← ea0]
    replace hSt := St_tr hSt (St_mono (mv' := [32]) (by decide) hs4)
    refine x_aload_n hM d_WP_findReached_43 rfl 0 rfl ?_
    refine y_getr hG hM V ck_WP 4 (Nat.le_of_ble_eq_true rfl) rfl rfl w_406 rfl d_WP_findReached_44 (0, 0, 0) (5, 0, 0) rfl rfl rfl ?_
    refine x_aload_n hM d_WP_findReached_47 rfl 0 rfl ?_
    refine y_getr hG hM V ck_WP 3 (Nat.le_of_ble_eq_true rfl) rfl rfl w_405 rfl d_WP_findReached_48 (0, 0, 0) (4, 0, 0) rfl rfl rfl ?_
    refine y_getl hG hM V ck_Ch 0 (Nat.le_of_ble_eq_true rfl) rfl rfl w_234 rfl d_WP_findReached_51 (4, 0, 0) rfl rfl ?_
    obtain ⟨ρ6, eρ6⟩ : ∃ z : Rs, z = pL ρ2 (5, 0, 0) 4 (lR ρ2 (4, 0, 0) 0) := ⟨_, rfl⟩
    replace F := F ρ6 eρ6
    refine y_putl hG hM V ck_Re 4 (Nat.le_of_ble_eq_true rfl) rfl rfl w_264 rfl d_WP_findReached_54 rfl (5, 0, 0) rfl rfl (fun h V => ?_)
    rw [← eρ6] at V
    clear eρ6
    exact x_return hM d_WP_findReached_57 rfl (y_end V hSt (F _))
set_option maxRecDepth 100000 in
set_option maxHeartbeats 4000000 in
theorem T_WP_findAim_0 {G : Gc} {M : Mc} {Q : State → Prop} {ad0 : Ro → Nat} {K : (Ro → Nat) → Option Value → Rs → Prop} (hG : gok G) (hM : mok G M r_WP_findAim Q (KV G [33] ad0 K))  (ρ : Rs) (F : ∀ z1 : Int64, z1 = (if (lR ρ (4, 0, 0) 3) < (lR ρ (4, 0, 0) 1) then (lR ρ (4, 0, 0) 1) else (lR ρ (4, 0, 0) 3)) → ((0 ≤ (lg_cmp (lR ρ (6, 0, 0) 2) z1) → (∀ ad, K ad none ρ)) ∧ (¬ 0 ≤ (lg_cmp (lR ρ (6, 0, 0) 2) z1) → (semV G r_Wi_findAim [33] (fun ad => [.ref (ad (6, 0, 0)), .ref (ad (1, 0, 0)), .ref (ad (10, 0, 0))]) ρ (fun ad u3 ρ2 => u3 = none ∧ (∀ ρ6 : Rs, ρ6 = pL ρ2 (6, 0, 0) 2 (lR ρ2 (4, 0, 0) 0) → (∀ ad, K ad none ρ6))))))) : Y G [33] ad0 M Q 0 (fun ad => [(0, .ref (ad (0, 0, 0)))]) (fun ad => []) ρ := by
  intro ad h hSt V
  show X G M Q 0 [(0, .ref (ad (0, 0, 0)))] [] h
  refine x_aload_n hM d_WP_findAim_0 rfl 0 rfl ?_
  refine y_getr hG hM V ck_WP 5 (Nat.le_of_ble_eq_true rfl) rfl rfl w_407 rfl d_WP_findAim_1 (0, 0, 0) (6, 0, 0) rfl rfl rfl ?_
  refine y_getl hG hM V ck_Wi 2 (Nat.le_of_ble_eq_true rfl) rfl rfl w_288 rfl d_WP_findAim_4 (6, 0, 0) rfl rfl ?_
  refine x_aload_n hM d_WP_findAim_7 rfl 0 rfl ?_
  refine y_getr hG hM V ck_WP 3 (Nat.le_of_ble_eq_true rfl) rfl rfl w_405 rfl d_WP_findAim_8 (0, 0, 0) (4, 0, 0) rfl rfl rfl ?_
  refine y_getl hG hM V ck_Ch 1 (Nat.le_of_ble_eq_true rfl) rfl rfl w_236 rfl d_WP_findAim_11 (4, 0, 0) rfl rfl ?_
  refine x_aload_n hM d_WP_findAim_14 rfl 0 rfl ?_
  refine y_getr hG hM V ck_WP 3 (Nat.le_of_ble_eq_true rfl) rfl rfl w_405 rfl d_WP_findAim_15 (0, 0, 0) (4, 0, 0) rfl rfl rfl ?_
  refine y_getl hG hM V ck_Ch 3 (Nat.le_of_ble_eq_true rfl) rfl rfl w_240 rfl d_WP_findAim_18 (4, 0, 0) rfl rfl ?_
  obtain ⟨z1, ez1⟩ : ∃ z : Int64, z = (if (lR ρ (4, 0, 0) 3) < (lR ρ (4, 0, 0) 1) then (lR ρ (4, 0, 0) 1) else (lR ρ (4, 0, 0) 3)) := ⟨_, rfl⟩
  replace F := F z1 ez1
  refine x_mmaxL hG hM rfl w_620 w_621 w_14 w_mmaxL (Nat.le_of_ble_eq_true rfl) (Nat.le_of_ble_eq_true rfl) d_WP_findAim_21 ?_
  rw [← ez1]
  clear ez1
  refine x_lcmp hM d_WP_findAim_24 ?_
  refine x_if_ge (tgt := 57) hM d_WP_findAim_25 (by decide) (fun q7 => ?_) (fun q7 => ?_)
  · replace F := F.1 q7
    exact x_return hM d_WP_findAim_57 rfl (y_end V hSt (F _))
  · replace F := F.2 q7
    refine x_aload_n hM d_WP_findAim_28 rfl 0 rfl ?_
    refine y_getr hG hM V ck_WP 5 (Nat.le_of_ble_eq_true rfl) rfl rfl w_407 rfl d_WP_findAim_29 (0, 0, 0) (6, 0, 0) rfl rfl rfl ?_
    refine x_aload_n hM d_WP_findAim_32 rfl 0 rfl ?_
    refine y_getr hG hM V ck_WP 0 (Nat.le_of_ble_eq_true rfl) rfl rfl w_402 rfl d_WP_findAim_33 (0, 0, 0) (1, 0, 0) rfl rfl rfl ?_
    refine x_aload_n hM d_WP_findAim_36 rfl 0 rfl ?_
    refine y_getr hG hM V ck_WP 1 (Nat.le_of_ble_eq_true rfl) rfl rfl w_403 rfl d_WP_findAim_37 (0, 0, 0) (10, 0, 0) rfl rfl rfl ?_
    refine x_callV hG hM (r' := r_Wi_findAim) (ci := 8) [.ref (ad (1, 0, 0)), .ref (ad (10, 0, 0))] rfl rfl (Nat.le_of_ble_eq_true rfl) yk_Wi_findAim ⟨Nat.le_of_ble_eq_true rfl, Nat.le_of_ble_eq_true rfl⟩ w_642 w_643 w_644 rfl rfl (Nat.le_of_ble_eq_true rfl) d_WP_findAim_40 (by rw [vT V rfl]; rfl) (sem_mono (F _ _ V) ?_)
    intro u3 h F
    obtain ⟨ad5, ρ2, V, hs4, F⟩ := F
    obtain ⟨rfl, F⟩ := F
    have ea0 : ad5 (0, 0, 0) = ad (0, 0, 0) := hs4 _ (Or.inr rfl)
    rw [← ea0]
    replace hSt := St_tr hSt (St_mono (mv' := [33]) (by decide) hs4)
    refine x_aload_n hM d_WP_findAim_43 rfl 0 rfl ?_
    refine y_getr hG hM V ck_WP 5 (Nat.le_of_ble_eq_true rfl) rfl rfl w_407 rfl d_WP_findAim_44 (0, 0, 0) (6, 0, 0) rfl rfl rfl ?_
    refine x_aload_n hM d_WP_findAim_47 rfl 0 rfl ?_
    refine y_getr hG hM V ck_WP 3 (Nat.le_of_ble_eq_true rfl) rfl rfl w_405 rfl d_WP_findAim_48 (0, 0, 0) (4, 0, 0) rfl rfl rfl ?_
    refine y_getl hG hM V ck_Ch 0 (Nat.le_of_ble_eq_true rfl) rfl rfl w_234 rfl d_WP_findAim_51 (4, 0, 0) rfl rfl ?_
    obtain ⟨ρ6, eρ6⟩ : ∃ z : Rs, z = pL ρ2 (6, 0, 0) 2 (lR ρ2 (4, 0, 0) 0) := ⟨_, rfl⟩
    replace F := F ρ6 eρ6
    refine y_putl hG hM V ck_Wi 2 (Nat.le_of_ble_eq_true rfl) rfl rfl w_288 rfl d_WP_findAim_54 rfl (6, 0, 0) rfl rfl (fun h V => ?_)
    rw [← eρ6] at V
    clear eρ6
    exact x_return hM d_WP_findAim_57 rfl (y_end V hSt (F _))
set_option maxRecDepth 100000 in
set_option maxHeartbeats 4000000 in
theorem T_WP_findNumbers_0 {G : Gc} {M : Mc} {Q : State → Prop} {ad0 : Ro → Nat} {K : (Ro → Nat) → Option Value → Rs → Prop} (hG : gok G) (hM : mok G M r_WP_findNumbers Q (KV G [33] ad0 K)) (v1 : Int32) (ρ : Rs) (F : semV G r_WP_findAim [33] (fun ad => [.ref (ad (0, 0, 0))]) ρ (fun ad u2 ρ1 => u2 = none ∧ (vp_in v1 4 ∧ (∀ z6 : Int64, z6 = (if (lR ρ1 (4, 0, 0) 3) < (lR ρ1 (4, 0, 0) 1) then (lR ρ1 (4, 0, 0) 1) else (lR ρ1 (4, 0, 0) 3)) → ((0 ≤ (lg_cmp (lR ρ1 (33, 6, 0) (Int32.toNatClampNeg v1)) z6) → (semV G r_Wi_numbersOf [] (fun ad => [.ref (ad (6, 0, 0)), .int v1]) ρ1 (fun ad u8 ρ7 => ∃ g10 : Ro, okR g10 = true ∧ tgR g10 = 50 ∧ u8 = some (.ref (ad g10)) ∧ (∀ ad, K ad (some (.ref (ad g10))) ρ7)))) ∧ (¬ 0 ≤ (lg_cmp (lR ρ1 (33, 6, 0) (Int32.toNatClampNeg v1)) z6) → (semV G r_Wi_findNumbers [33] (fun ad => [.ref (ad (6, 0, 0)), .ref (ad (1, 0, 0)), .int v1]) ρ1 (fun ad u13 ρ12 => u13 = none ∧ (vp_in v1 4 ∧ (∀ ρ16 : Rs, ρ16 = pL ρ12 (33, 6, 0) (Int32.toNatClampNeg v1) (lR ρ12 (4, 0, 0) 0) → (semV G r_Wi_numbersOf [] (fun ad => [.ref (ad (6, 0, 0)), .int v1]) ρ16 (fun ad u18 ρ17 => ∃ g20 : Ro, okR g20 = true ∧ tgR g20 = 50 ∧ u18 = some (.ref (ad g20)) ∧ (∀ ad, K ad (some (.ref (ad g20))) ρ17))))))))))))) : Y G [33] ad0 M Q 0 (fun ad => [(0, .ref (ad (0, 0, 0))), (1, .int v1)]) (fun ad => []) ρ := by
  intro ad h hSt V
  show X G M Q 0 [(0, .ref (ad (0, 0, 0))), (1, .int v1)] [] h
  refine x_aload_n hM d_WP_findNumbers_0 rfl 0 rfl ?_
  refine x_callV hG hM (r' := r_WP_findAim) (ci := 0) [] rfl rfl (Nat.le_of_ble_eq_true rfl) yk_WP_findAim ⟨Nat.le_of_ble_eq_true rfl, Nat.le_of_ble_eq_true rfl⟩ w_638 w_640 ws_WP_findAim rfl rfl (Nat.le_of_ble_eq_true rfl) d_WP_findNumbers_1 (by rw [vT V rfl]; rfl) (sem_mono (F _ _ V) ?_)
  intro u2 h F
  obtain ⟨ad4, ρ1, V, hs3, F⟩ := F
  obtain ⟨rfl, F⟩ := F
  have ea0 : ad4 (0, 0, 0) = ad (0, 0, 0) := hs3 _ (Or.inr rfl)
  rw [← ea0]
  replace hSt := St_tr hSt (St_mono (mv' := [33]) (by decide) hs3)
  refine x_aload_n hM d_WP_findNumbers_4 rfl 0 rfl ?_
  refine y_getr hG hM V ck_WP 5 (Nat.le_of_ble_eq_true rfl) rfl rfl w_407 rfl d_WP_findNumbers_5 (0, 0, 0) (6, 0, 0) rfl rfl rfl ?_
  refine y_getr hG hM V ck_Wi 6 (Nat.le_of_ble_eq_true rfl) rfl rfl w_293 rfl d_WP_findNumbers_8 (6, 0, 0) (33, 6, 0) rfl rfl rfl ?_
  refine x_iload_n hM d_WP_findNumbers_11 rfl 1 rfl ?_
  obtain ⟨c5, F⟩ := F
  refine y_laload hG hM V d_WP_findNumbers_12 (33, 6, 0) rfl rfl (by rw [vlen V (r := (33, 6, 0)) rfl rfl]; exact c5) ?_
  refine x_aload_n hM d_WP_findNumbers_13 rfl 0 rfl ?_
  refine y_getr hG hM V ck_WP 3 (Nat.le_of_ble_eq_true rfl) rfl rfl w_405 rfl d_WP_findNumbers_14 (0, 0, 0) (4, 0, 0) rfl rfl rfl ?_
  refine y_getl hG hM V ck_Ch 1 (Nat.le_of_ble_eq_true rfl) rfl rfl w_236 rfl d_WP_findNumbers_17 (4, 0, 0) rfl rfl ?_
  refine x_aload_n hM d_WP_findNumbers_20 rfl 0 rfl ?_
  refine y_getr hG hM V ck_WP 3 (Nat.le_of_ble_eq_true rfl) rfl rfl w_405 rfl d_WP_findNumbers_21 (0, 0, 0) (4, 0, 0) rfl rfl rfl ?_
  refine y_getl hG hM V ck_Ch 3 (Nat.le_of_ble_eq_true rfl) rfl rfl w_240 rfl d_WP_findNumbers_24 (4, 0, 0) rfl rfl ?_
  obtain ⟨z6, ez6⟩ : ∃ z : Int64, z = (if (lR ρ1 (4, 0, 0) 3) < (lR ρ1 (4, 0, 0) 1) then (lR ρ1 (4, 0, 0) 1) else (lR ρ1 (4, 0, 0) 3)) := ⟨_, rfl⟩
  replace F := F z6 ez6
  refine x_mmaxL hG hM rfl w_620 w_621 w_14 w_mmaxL (Nat.le_of_ble_eq_true rfl) (Nat.le_of_ble_eq_true rfl) d_WP_findNumbers_27 ?_
  rw [← ez6]
  clear ez6
  refine x_lcmp hM d_WP_findNumbers_30 ?_
  refine x_if_ge (tgt := 62) hM d_WP_findNumbers_31 (by decide) (fun q23 => ?_) (fun q23 => ?_)
  · replace F := F.1 q23
    refine x_aload_n hM d_WP_findNumbers_62 rfl 0 rfl ?_
    refine y_getr hG hM V ck_WP 5 (Nat.le_of_ble_eq_true rfl) rfl rfl w_407 rfl d_WP_findNumbers_63 (0, 0, 0) (6, 0, 0) rfl rfl rfl ?_
    refine x_iload_n hM d_WP_findNumbers_66 rfl 1 rfl ?_
    refine x_callV hG hM (r' := r_Wi_numbersOf) (ci := 8) [.int v1] rfl rfl (Nat.le_of_ble_eq_true rfl) yk_Wi_numbersOf ⟨Nat.le_of_ble_eq_true rfl, Nat.le_of_ble_eq_true rfl⟩ w_682 w_683 w_684 rfl rfl (Nat.le_of_ble_eq_true rfl) d_WP_findNumbers_67 (by rw [vT V rfl]; rfl) (sem_mono (F _ _ V) ?_)
    intro u8 h F
    obtain ⟨ad11, ρ7, V, hs9, F⟩ := F
    obtain ⟨g10, og10, tg10, rfl, F⟩ := F
    have hs9 := (St_eq hs9).symm
    subst hs9
    exact x_areturn hM d_WP_findNumbers_70 ⟨_, rfl, Or.inr ⟨_, rfl⟩⟩ (y_end V hSt (F _))
  · replace F := F.2 q23
    refine x_aload_n hM d_WP_findNumbers_34 rfl 0 rfl ?_
    refine y_getr hG hM V ck_WP 5 (Nat.le_of_ble_eq_true rfl) rfl rfl w_407 rfl d_WP_findNumbers_35 (0, 0, 0) (6, 0, 0) rfl rfl rfl ?_
    refine x_aload_n hM d_WP_findNumbers_38 rfl 0 rfl ?_
    refine y_getr hG hM V ck_WP 0 (Nat.le_of_ble_eq_true rfl) rfl rfl w_402 rfl d_WP_findNumbers_39 (0, 0, 0) (1, 0, 0) rfl rfl rfl ?_
    refine x_iload_n hM d_WP_findNumbers_42 rfl 1 rfl ?_
    refine x_callV hG hM (r' := r_Wi_findNumbers) (ci := 8) [.ref (ad4 (1, 0, 0)), .int v1] rfl rfl (Nat.le_of_ble_eq_true rfl) yk_Wi_findNumbers ⟨Nat.le_of_ble_eq_true rfl, Nat.le_of_ble_eq_true rfl⟩ w_654 w_655 w_656 rfl rfl (Nat.le_of_ble_eq_true rfl) d_WP_findNumbers_43 (by rw [vT V rfl]; rfl) (sem_mono (F _ _ V) ?_)
    intro u13 h F
    obtain ⟨ad15, ρ12, V, hs14, F⟩ := F
    obtain ⟨rfl, F⟩ := F
    have ea0 : ad15 (0, 0, 0) = ad4 (0, 0, 0) := hs14 _ (Or.inr rfl)
    rw [← ea0]
    replace hSt := St_tr hSt (St_mono (mv' := [33]) (by decide) hs14)
    refine x_aload_n hM d_WP_findNumbers_46 rfl 0 rfl ?_
    refine y_getr hG hM V ck_WP 5 (Nat.le_of_ble_eq_true rfl) rfl rfl w_407 rfl d_WP_findNumbers_47 (0, 0, 0) (6, 0, 0) rfl rfl rfl ?_
    refine y_getr hG hM V ck_Wi 6 (Nat.le_of_ble_eq_true rfl) rfl rfl w_293 rfl d_WP_findNumbers_50 (6, 0, 0) (33, 6, 0) rfl rfl rfl ?_
    refine x_iload_n hM d_WP_findNumbers_53 rfl 1 rfl ?_
    refine x_aload_n hM d_WP_findNumbers_54 rfl 0 rfl ?_
    refine y_getr hG hM V ck_WP 3 (Nat.le_of_ble_eq_true rfl) rfl rfl w_405 rfl d_WP_findNumbers_55 (0, 0, 0) (4, 0, 0) rfl rfl rfl ?_
    refine y_getl hG hM V ck_Ch 0 (Nat.le_of_ble_eq_true rfl) rfl rfl w_234 rfl d_WP_findNumbers_58 (4, 0, 0) rfl rfl ?_
    obtain ⟨c22, F⟩ := F
    obtain ⟨ρ16, eρ16⟩ : ∃ z : Rs, z = pL ρ12 (33, 6, 0) (Int32.toNatClampNeg v1) (lR ρ12 (4, 0, 0) 0) := ⟨_, rfl⟩
    replace F := F ρ16 eρ16
    refine y_lastore hG hM V d_WP_findNumbers_61 (33, 6, 0) rfl rfl (by rw [vlen V (r := (33, 6, 0)) rfl rfl]; exact c22) (fun h V => ?_)
    rw [← eρ16] at V
    clear eρ16
    refine x_aload_n hM d_WP_findNumbers_62 rfl 0 rfl ?_
    refine y_getr hG hM V ck_WP 5 (Nat.le_of_ble_eq_true rfl) rfl rfl w_407 rfl d_WP_findNumbers_63 (0, 0, 0) (6, 0, 0) rfl rfl rfl ?_
    refine x_iload_n hM d_WP_findNumbers_66 rfl 1 rfl ?_
    refine x_callV hG hM (r' := r_Wi_numbersOf) (ci := 8) [.int v1] rfl rfl (Nat.le_of_ble_eq_true rfl) yk_Wi_numbersOf ⟨Nat.le_of_ble_eq_true rfl, Nat.le_of_ble_eq_true rfl⟩ w_682 w_683 w_684 rfl rfl (Nat.le_of_ble_eq_true rfl) d_WP_findNumbers_67 (by rw [vT V rfl]; rfl) (sem_mono (F _ _ V) ?_)
    intro u18 h F
    obtain ⟨ad21, ρ17, V, hs19, F⟩ := F
    obtain ⟨g20, og20, tg20, rfl, F⟩ := F
    have hs19 := (St_eq hs19).symm
    subst hs19
    exact x_areturn hM d_WP_findNumbers_70 ⟨_, rfl, Or.inr ⟨_, rfl⟩⟩ (y_end V hSt (F _))
set_option maxRecDepth 100000 in
set_option maxHeartbeats 4000000 in
theorem T_WP_countNumbered_0 {G : Gc} {M : Mc} {Q : State → Prop} {ad0 : Ro → Nat} {K : (Ro → Nat) → Option Value → Rs → Prop} (hG : gok G) (hM : mok G M r_WP_countNumbered Q (KV G [] ad0 K)) (g1 : Ro) (og1 : okR g1 = true) (tg1 : tgR g1 = 50) (ρ : Rs) (F : Y G [] ad0 M Q 4 (fun ad => [(0, .ref (ad (0, 0, 0))), (1, .ref (ad g1)), (2, .int 0), (3, .int 0)]) (fun ad => []) ρ) : Y G [] ad0 M Q 0 (fun ad => [(0, .ref (ad (0, 0, 0))), (1, .ref (ad g1))]) (fun ad => []) ρ := by
  intro ad h hSt V
  show X G M Q 0 [(0, .ref (ad (0, 0, 0))), (1, .ref (ad g1))] [] h
  refine x_iconst (v := 0) hM d_WP_countNumbered_0 (by decide) ?_
  refine x_istore_n (lv2 := [(2, .int 0), (0, .ref (ad (0, 0, 0))), (1, .ref (ad g1))]) hM d_WP_countNumbered_1 rfl (Nat.le_of_ble_eq_true rfl) rfl ?_
  refine x_iconst (v := 0) hM d_WP_countNumbered_2 (by decide) ?_
  refine x_istore_n (lv2 := [(3, .int 0), (2, .int 0), (0, .ref (ad (0, 0, 0))), (1, .ref (ad g1))]) hM d_WP_countNumbered_3 rfl (Nat.le_of_ble_eq_true rfl) rfl ?_
  refine x_sub [2, 3, 1, 0] rfl ?_
  exact F _ _ hSt V
set_option maxRecDepth 100000 in
set_option maxHeartbeats 4000000 in
theorem T_WP_countNumbered_4 {G : Gc} {M : Mc} {Q : State → Prop} {ad0 : Ro → Nat} {K : (Ro → Nat) → Option Value → Rs → Prop} (hG : gok G) (hM : mok G M r_WP_countNumbered Q (KV G [] ad0 K)) (g1 : Ro) (og1 : okR g1 = true) (tg1 : tgR g1 = 50) (v2 : Int32) (v3 : Int32) (ρ : Rs) (F : ((iR ρ (1, 0, 0) 1) ≤ v3 → (∀ ad, K ad (some (.int v2)) ρ)) ∧ (¬ (iR ρ (1, 0, 0) 1) ≤ v3 → (vp_in v3 (nR ρ g1) ∧ (∀ z3 : Int32, z3 = (if (iR ρ g1 (Int32.toNatClampNeg v3)) = (-1) then v2 else (v2 + 1)) → (Y G [] ad0 M Q 4 (fun ad => [(0, .ref (ad (0, 0, 0))), (1, .ref (ad g1)), (2, .int z3), (3, .int (v3 + 1))]) (fun ad => []) ρ))))) : Y G [] ad0 M Q 4 (fun ad => [(0, .ref (ad (0, 0, 0))), (1, .ref (ad g1)), (2, .int v2), (3, .int v3)]) (fun ad => []) ρ := by
  intro ad h hSt V
  show X G M Q 4 [(0, .ref (ad (0, 0, 0))), (1, .ref (ad g1)), (2, .int v2), (3, .int v3)] [] h
  refine x_iload_n hM d_WP_countNumbered_4 rfl 3 rfl ?_
  refine x_aload_n hM d_WP_countNumbered_5 rfl 0 rfl ?_
  refine y_getr hG hM V ck_WP 0 (Nat.le_of_ble_eq_true rfl) rfl rfl w_402 rfl d_WP_countNumbered_6 (0, 0, 0) (1, 0, 0) rfl rfl rfl ?_
  refine y_geti hG hM V ck_Wo 1 (Nat.le_of_ble_eq_true rfl) rfl rfl w_132 rfl d_WP_countNumbered_9 (1, 0, 0) rfl rfl ?_
  refine x_icmp_ge (tgt := 31) hM d_WP_countNumbered_12 (by decide) (fun q5 => ?_) (fun q5 => ?_)
  · replace F := F.1 q5
    refine x_iload_n hM d_WP_countNumbered_31 rfl 2 rfl ?_
    exact x_ireturn hM d_WP_countNumbered_32 rfl (y_end V hSt (F _))
  · replace F := F.2 q5
    refine x_aload_n hM d_WP_countNumbered_15 rfl 1 rfl ?_
    refine x_iload_n hM d_WP_countNumbered_16 rfl 3 rfl ?_
    obtain ⟨c2, F⟩ := F
    refine y_iaload hG hM V d_WP_countNumbered_17 g1 og1 tg1 c2 ?_
    refine x_iconst (v := (-1)) hM d_WP_countNumbered_18 (by decide) ?_
    have JJ : ∀ (z3 : Int32) (ez3 : z3 = (if (iR ρ g1 (Int32.toNatClampNeg v3)) = (-1) then v2 else (v2 + 1))), X G M Q 25 [(0, .ref (ad (0, 0, 0))), (1, .ref (ad g1)), (2, .int z3), (3, .int v3)] [] h := by
      intro z3 ez3
      replace F := F _ ez3
      refine x_iinc (v := (v3 + 1)) (lv2 := [(3, .int (v3 + 1)), (0, .ref (ad (0, 0, 0))), (1, .ref (ad g1)), (2, .int z3)]) hM d_WP_countNumbered_25 (j := 3) rfl rfl (Nat.le_of_ble_eq_true rfl) rfl ?_
      refine x_goto (tgt := 4) hM d_WP_countNumbered_28 (by decide) ?_
      refine x_sub [1, 2, 3, 0] rfl ?_
      exact F _ _ hSt V
    refine x_icmp_eq (tgt := 25) hM d_WP_countNumbered_19 (by decide) (fun q4 => ?_) (fun q4 => ?_)
    · exact JJ _ (Eq.symm (if_pos q4))
    · refine x_iinc (v := (v2 + 1)) (lv2 := [(2, .int (v2 + 1)), (0, .ref (ad (0, 0, 0))), (1, .ref (ad g1)), (3, .int v3)]) hM d_WP_countNumbered_22 (j := 2) rfl rfl (Nat.le_of_ble_eq_true rfl) rfl ?_
      refine x_sub [1, 2, 0, 3] rfl ?_
      exact JJ _ (Eq.symm (if_neg q4))
set_option maxRecDepth 100000 in
set_option maxHeartbeats 4000000 in
theorem T_WP_countDead_0 {G : Gc} {M : Mc} {Q : State → Prop} {ad0 : Ro → Nat} {K : (Ro → Nat) → Option Value → Rs → Prop} (hG : gok G) (hM : mok G M r_WP_countDead Q (KV G [32, 33] ad0 K))  (ρ : Rs) (F : semV G r_WP_findReached [32] (fun ad => [.ref (ad (0, 0, 0))]) ρ (fun ad u2 ρ1 => u2 = none ∧ (semV G r_WP_findNumbers [33] (fun ad => [.ref (ad (0, 0, 0)), .int 1]) ρ1 (fun ad u6 ρ5 => ∃ g8 : Ro, okR g8 = true ∧ tgR g8 = 50 ∧ u6 = some (.ref (ad g8)) ∧ (Y G [32, 33] ad0 M Q 14 (fun ad => [(0, .ref (ad (0, 0, 0))), (1, .ref (ad g8)), (2, .int 0), (3, .int 0)]) (fun ad => []) ρ5))))) : Y G [32, 33] ad0 M Q 0 (fun ad => [(0, .ref (ad (0, 0, 0)))]) (fun ad => []) ρ := by
  intro ad h hSt V
  show X G M Q 0 [(0, .ref (ad (0, 0, 0)))] [] h
  refine x_aload_n hM d_WP_countDead_0 rfl 0 rfl ?_
  refine x_callV hG hM (r' := r_WP_findReached) (ci := 0) [] rfl rfl (Nat.le_of_ble_eq_true rfl) yk_WP_findReached ⟨Nat.le_of_ble_eq_true rfl, Nat.le_of_ble_eq_true rfl⟩ w_616 w_618 ws_WP_findReached rfl rfl (Nat.le_of_ble_eq_true rfl) d_WP_countDead_1 (by rw [vT V rfl]; rfl) (sem_mono (F _ _ V) ?_)
  intro u2 h F
  obtain ⟨ad4, ρ1, V, hs3, F⟩ := F
  obtain ⟨rfl, F⟩ := F
  have ea0 : ad4 (0, 0, 0) = ad (0, 0, 0) := hs3 _ (Or.inr rfl)
  rw [← ea0]
  replace hSt := St_tr hSt (St_mono (mv' := [32]) (by decide) hs3)
  refine x_aload_n hM d_WP_countDead_4 rfl 0 rfl ?_
  refine x_iconst (v := 1) hM d_WP_countDead_5 (by decide) ?_
  refine x_callV hG hM (r' := r_WP_findNumbers) (ci := 0) [.int 1] rfl rfl (Nat.le_of_ble_eq_true rfl) yk_WP_findNumbers ⟨Nat.le_of_ble_eq_true rfl, Nat.le_of_ble_eq_true rfl⟩ w_650 w_652 ws_WP_findNumbers rfl rfl (Nat.le_of_ble_eq_true rfl) d_WP_countDead_6 (by rw [vT V rfl]; rfl) (sem_mono (F _ _ V) ?_)
  intro u6 h F
  obtain ⟨ad9, ρ5, V, hs7, F⟩ := F
  obtain ⟨g8, og8, tg8, rfl, F⟩ := F
  have ea0 : ad9 (0, 0, 0) = ad4 (0, 0, 0) := hs7 _ (Or.inr rfl)
  rw [← ea0]
  replace hSt := St_tr hSt (St_mono (mv' := [33]) (by decide) hs7)
  refine x_astore_n (lv2 := [(1, .ref (ad9 g8)), (0, .ref (ad9 (0, 0, 0)))]) hM d_WP_countDead_9 rfl (Nat.le_of_ble_eq_true rfl) rfl ?_
  refine x_iconst (v := 0) hM d_WP_countDead_10 (by decide) ?_
  refine x_istore_n (lv2 := [(2, .int 0), (1, .ref (ad9 g8)), (0, .ref (ad9 (0, 0, 0)))]) hM d_WP_countDead_11 rfl (Nat.le_of_ble_eq_true rfl) rfl ?_
  refine x_iconst (v := 0) hM d_WP_countDead_12 (by decide) ?_
  refine x_istore_n (lv2 := [(3, .int 0), (2, .int 0), (1, .ref (ad9 g8)), (0, .ref (ad9 (0, 0, 0)))]) hM d_WP_countDead_13 rfl (Nat.le_of_ble_eq_true rfl) rfl ?_
  refine x_sub [3, 2, 1, 0] rfl ?_
  exact F _ _ hSt V
set_option maxRecDepth 100000 in
set_option maxHeartbeats 4000000 in
theorem T_WP_countDead_14 {G : Gc} {M : Mc} {Q : State → Prop} {ad0 : Ro → Nat} {K : (Ro → Nat) → Option Value → Rs → Prop} (hG : gok G) (hM : mok G M r_WP_countDead Q (KV G [32, 33] ad0 K)) (g1 : Ro) (og1 : okR g1 = true) (tg1 : tgR g1 = 50) (v2 : Int32) (v3 : Int32) (ρ : Rs) (F : ((iR ρ (1, 0, 0) 1) ≤ v3 → (∀ ad, K ad (some (.int v2)) ρ)) ∧ (¬ (iR ρ (1, 0, 0) 1) ≤ v3 → (vp_in v3 (nR ρ (32, 0, 0)) ∧ ((¬ (iR ρ (32, 0, 0) (Int32.toNatClampNeg v3)) = (-1) → vp_in v3 (nR ρ g1)) ∧ (∀ z4 : Int32, z4 = (if (iR ρ (32, 0, 0) (Int32.toNatClampNeg v3)) = (-1) then v2 else (if (iR ρ g1 (Int32.toNatClampNeg v3)) = (-1) then (v2 + 1) else v2)) → (Y G [32, 33] ad0 M Q 14 (fun ad => [(0, .ref (ad (0, 0, 0))), (1, .ref (ad g1)), (2, .int z4), (3, .int (v3 + 1))]) (fun ad => []) ρ)))))) : Y G [32, 33] ad0 M Q 14 (fun ad => [(0, .ref (ad (0, 0, 0))), (1, .ref (ad g1)), (2, .int v2), (3, .int v3)]) (fun ad => []) ρ := by
  intro ad h hSt V
  show X G M Q 14 [(0, .ref (ad (0, 0, 0))), (1, .ref (ad g1)), (2, .int v2), (3, .int v3)] [] h
  refine x_iload_n hM d_WP_countDead_14 rfl 3 rfl ?_
  refine x_aload_n hM d_WP_countDead_15 rfl 0 rfl ?_
  refine y_getr hG hM V ck_WP 0 (Nat.le_of_ble_eq_true rfl) rfl rfl w_402 rfl d_WP_countDead_16 (0, 0, 0) (1, 0, 0) rfl rfl rfl ?_
  refine y_geti hG hM V ck_Wo 1 (Nat.le_of_ble_eq_true rfl) rfl rfl w_132 rfl d_WP_countDead_19 (1, 0, 0) rfl rfl ?_
  refine x_icmp_ge (tgt := 54) hM d_WP_countDead_22 (by decide) (fun q7 => ?_) (fun q7 => ?_)
  · replace F := F.1 q7
    refine x_iload_n hM d_WP_countDead_54 rfl 2 rfl ?_
    exact x_ireturn hM d_WP_countDead_55 rfl (y_end V hSt (F _))
  · replace F := F.2 q7
    refine x_aload_n hM d_WP_countDead_25 rfl 0 rfl ?_
    refine y_getr hG hM V ck_WP 4 (Nat.le_of_ble_eq_true rfl) rfl rfl w_406 rfl d_WP_countDead_26 (0, 0, 0) (5, 0, 0) rfl rfl rfl ?_
    refine y_getr hG hM V ck_Re 0 (Nat.le_of_ble_eq_true rfl) rfl rfl w_257 rfl d_WP_countDead_29 (5, 0, 0) (32, 0, 0) rfl rfl rfl ?_
    refine x_iload_n hM d_WP_countDead_32 rfl 3 rfl ?_
    obtain ⟨c2, F⟩ := F
    refine y_iaload hG hM V d_WP_countDead_33 (32, 0, 0) rfl rfl c2 ?_
    refine x_iconst (v := (-1)) hM d_WP_countDead_34 (by decide) ?_
    obtain ⟨S, F⟩ := F
    have JJ : ∀ (z4 : Int32) (ez4 : z4 = (if (iR ρ (32, 0, 0) (Int32.toNatClampNeg v3)) = (-1) then v2 else (if (iR ρ g1 (Int32.toNatClampNeg v3)) = (-1) then (v2 + 1) else v2))), X G M Q 48 [(0, .ref (ad (0, 0, 0))), (1, .ref (ad g1)), (2, .int z4), (3, .int v3)] [] h := by
      intro z4 ez4
      replace F := F _ ez4
      refine x_iinc (v := (v3 + 1)) (lv2 := [(3, .int (v3 + 1)), (0, .ref (ad (0, 0, 0))), (1, .ref (ad g1)), (2, .int z4)]) hM d_WP_countDead_48 (j := 3) rfl rfl (Nat.le_of_ble_eq_true rfl) rfl ?_
      refine x_goto (tgt := 14) hM d_WP_countDead_51 (by decide) ?_
      refine x_sub [1, 2, 3, 0] rfl ?_
      exact F _ _ hSt V
    refine x_icmp_eq (tgt := 48) hM d_WP_countDead_35 (by decide) (fun q5 => ?_) (fun q5 => ?_)
    · exact JJ _ (Eq.symm (if_pos q5))
    · replace S := S q5
      refine x_aload_n hM d_WP_countDead_38 rfl 1 rfl ?_
      refine x_iload_n hM d_WP_countDead_39 rfl 3 rfl ?_
      have c3 := S
      refine y_iaload hG hM V d_WP_countDead_40 g1 og1 tg1 c3 ?_
      refine x_iconst (v := (-1)) hM d_WP_countDead_41 (by decide) ?_
      refine x_icmp_ne (tgt := 48) hM d_WP_countDead_42 (by decide) (fun q6 => ?_) (fun q6 => ?_)
      · exact JJ _ (Eq.symm (Eq.trans (if_neg q5) (if_neg q6)))
      · refine x_iinc (v := (v2 + 1)) (lv2 := [(2, .int (v2 + 1)), (0, .ref (ad (0, 0, 0))), (1, .ref (ad g1)), (3, .int v3)]) hM d_WP_countDead_45 (j := 2) rfl rfl (Nat.le_of_ble_eq_true rfl) rfl ?_
        refine x_sub [1, 2, 0, 3] rfl ?_
        exact JJ _ (Eq.symm (Eq.trans (if_neg q5) (if_pos q6)))
set_option maxRecDepth 100000 in
set_option maxHeartbeats 4000000 in
theorem T_WP_findKinds_0 {G : Gc} {M : Mc} {Q : State → Prop} {ad0 : Ro → Nat} {K : (Ro → Nat) → Option Value → Rs → Prop} (hG : gok G) (hM : mok G M r_WP_findKinds Q (KV G [33, 34] ad0 K))  (ρ : Rs) (F : semV G r_WP_findAim [33] (fun ad => [.ref (ad (0, 0, 0))]) ρ (fun ad u2 ρ1 => u2 = none ∧ (∀ z5 : Int64, z5 = (if (lR ρ1 (4, 0, 0) 3) < (lR ρ1 (4, 0, 0) 1) then (lR ρ1 (4, 0, 0) 1) else (lR ρ1 (4, 0, 0) 3)) → ((0 ≤ (lg_cmp (lR ρ1 (7, 0, 0) 1) z5) → (∀ ad, K ad none ρ1)) ∧ (¬ 0 ≤ (lg_cmp (lR ρ1 (7, 0, 0) 1) z5) → (semV G r_Ki_split [34] (fun ad => [.ref (ad (7, 0, 0)), .ref (ad (1, 0, 0)), .ref (ad (33, 0, 0))]) ρ1 (fun ad u7 ρ6 => u7 = none ∧ (∀ ρ10 : Rs, ρ10 = pL ρ6 (7, 0, 0) 1 (lR ρ6 (4, 0, 0) 0) → (∀ ad, K ad none ρ10))))))))) : Y G [33, 34] ad0 M Q 0 (fun ad => [(0, .ref (ad (0, 0, 0)))]) (fun ad => []) ρ := by
  intro ad h hSt V
  show X G M Q 0 [(0, .ref (ad (0, 0, 0)))] [] h
  refine x_aload_n hM d_WP_findKinds_0 rfl 0 rfl ?_
  refine x_callV hG hM (r' := r_WP_findAim) (ci := 0) [] rfl rfl (Nat.le_of_ble_eq_true rfl) yk_WP_findAim ⟨Nat.le_of_ble_eq_true rfl, Nat.le_of_ble_eq_true rfl⟩ w_638 w_640 ws_WP_findAim rfl rfl (Nat.le_of_ble_eq_true rfl) d_WP_findKinds_1 (by rw [vT V rfl]; rfl) (sem_mono (F _ _ V) ?_)
  intro u2 h F
  obtain ⟨ad4, ρ1, V, hs3, F⟩ := F
  obtain ⟨rfl, F⟩ := F
  have ea0 : ad4 (0, 0, 0) = ad (0, 0, 0) := hs3 _ (Or.inr rfl)
  rw [← ea0]
  replace hSt := St_tr hSt (St_mono (mv' := [33]) (by decide) hs3)
  refine x_aload_n hM d_WP_findKinds_4 rfl 0 rfl ?_
  refine y_getr hG hM V ck_WP 6 (Nat.le_of_ble_eq_true rfl) rfl rfl w_408 rfl d_WP_findKinds_5 (0, 0, 0) (7, 0, 0) rfl rfl rfl ?_
  refine y_getl hG hM V ck_Ki 1 (Nat.le_of_ble_eq_true rfl) rfl rfl w_324 rfl d_WP_findKinds_8 (7, 0, 0) rfl rfl ?_
  refine x_aload_n hM d_WP_findKinds_11 rfl 0 rfl ?_
  refine y_getr hG hM V ck_WP 3 (Nat.le_of_ble_eq_true rfl) rfl rfl w_405 rfl d_WP_findKinds_12 (0, 0, 0) (4, 0, 0) rfl rfl rfl ?_
  refine y_getl hG hM V ck_Ch 1 (Nat.le_of_ble_eq_true rfl) rfl rfl w_236 rfl d_WP_findKinds_15 (4, 0, 0) rfl rfl ?_
  refine x_aload_n hM d_WP_findKinds_18 rfl 0 rfl ?_
  refine y_getr hG hM V ck_WP 3 (Nat.le_of_ble_eq_true rfl) rfl rfl w_405 rfl d_WP_findKinds_19 (0, 0, 0) (4, 0, 0) rfl rfl rfl ?_
  refine y_getl hG hM V ck_Ch 3 (Nat.le_of_ble_eq_true rfl) rfl rfl w_240 rfl d_WP_findKinds_22 (4, 0, 0) rfl rfl ?_
  obtain ⟨z5, ez5⟩ : ∃ z : Int64, z = (if (lR ρ1 (4, 0, 0) 3) < (lR ρ1 (4, 0, 0) 1) then (lR ρ1 (4, 0, 0) 1) else (lR ρ1 (4, 0, 0) 3)) := ⟨_, rfl⟩
  replace F := F z5 ez5
  refine x_mmaxL hG hM rfl w_620 w_621 w_14 w_mmaxL (Nat.le_of_ble_eq_true rfl) (Nat.le_of_ble_eq_true rfl) d_WP_findKinds_25 ?_
  rw [← ez5]
  clear ez5
  refine x_lcmp hM d_WP_findKinds_28 ?_
  refine x_if_ge (tgt := 64) hM d_WP_findKinds_29 (by decide) (fun q11 => ?_) (fun q11 => ?_)
  · replace F := F.1 q11
    exact x_return hM d_WP_findKinds_64 rfl (y_end V hSt (F _))
  · replace F := F.2 q11
    refine x_aload_n hM d_WP_findKinds_32 rfl 0 rfl ?_
    refine y_getr hG hM V ck_WP 6 (Nat.le_of_ble_eq_true rfl) rfl rfl w_408 rfl d_WP_findKinds_33 (0, 0, 0) (7, 0, 0) rfl rfl rfl ?_
    refine x_aload_n hM d_WP_findKinds_36 rfl 0 rfl ?_
    refine y_getr hG hM V ck_WP 0 (Nat.le_of_ble_eq_true rfl) rfl rfl w_402 rfl d_WP_findKinds_37 (0, 0, 0) (1, 0, 0) rfl rfl rfl ?_
    refine x_aload_n hM d_WP_findKinds_40 rfl 0 rfl ?_
    refine y_getr hG hM V ck_WP 5 (Nat.le_of_ble_eq_true rfl) rfl rfl w_407 rfl d_WP_findKinds_41 (0, 0, 0) (6, 0, 0) rfl rfl rfl ?_
    refine y_getr hG hM V ck_Wi 0 (Nat.le_of_ble_eq_true rfl) rfl rfl w_284 rfl d_WP_findKinds_44 (6, 0, 0) (33, 0, 0) rfl rfl rfl ?_
    refine x_callV hG hM (r' := r_Ki_split) (ci := 9) [.ref (ad4 (1, 0, 0)), .ref (ad4 (33, 0, 0))] rfl rfl (Nat.le_of_ble_eq_true rfl) yk_Ki_split ⟨Nat.le_of_ble_eq_true rfl, Nat.le_of_ble_eq_true rfl⟩ w_698 w_699 w_700 rfl rfl (Nat.le_of_ble_eq_true rfl) d_WP_findKinds_47 (by rw [vT V rfl]; rfl) (sem_mono (F _ _ V) ?_)
    intro u7 h F
    obtain ⟨ad9, ρ6, V, hs8, F⟩ := F
    obtain ⟨rfl, F⟩ := F
    have ea0 : ad9 (0, 0, 0) = ad4 (0, 0, 0) := hs8 _ (Or.inr rfl)
    rw [← ea0]
    replace hSt := St_tr hSt (St_mono (mv' := [34]) (by decide) hs8)
    refine x_aload_n hM d_WP_findKinds_50 rfl 0 rfl ?_
    refine y_getr hG hM V ck_WP 6 (Nat.le_of_ble_eq_true rfl) rfl rfl w_408 rfl d_WP_findKinds_51 (0, 0, 0) (7, 0, 0) rfl rfl rfl ?_
    refine x_aload_n hM d_WP_findKinds_54 rfl 0 rfl ?_
    refine y_getr hG hM V ck_WP 3 (Nat.le_of_ble_eq_true rfl) rfl rfl w_405 rfl d_WP_findKinds_55 (0, 0, 0) (4, 0, 0) rfl rfl rfl ?_
    refine y_getl hG hM V ck_Ch 0 (Nat.le_of_ble_eq_true rfl) rfl rfl w_234 rfl d_WP_findKinds_58 (4, 0, 0) rfl rfl ?_
    obtain ⟨ρ10, eρ10⟩ : ∃ z : Rs, z = pL ρ6 (7, 0, 0) 1 (lR ρ6 (4, 0, 0) 0) := ⟨_, rfl⟩
    replace F := F ρ10 eρ10
    refine y_putl hG hM V ck_Ki 1 (Nat.le_of_ble_eq_true rfl) rfl rfl w_324 rfl d_WP_findKinds_61 rfl (7, 0, 0) rfl rfl (fun h V => ?_)
    rw [← eρ10] at V
    clear eρ10
    exact x_return hM d_WP_findKinds_64 rfl (y_end V hSt (F _))
set_option maxRecDepth 100000 in
set_option maxHeartbeats 4000000 in
theorem T_WP_of_0 {G : Gc} {M : Mc} {Q : State → Prop} {ad0 : Ro → Nat} {K : (Ro → Nat) → Option Value → Rs → Prop} (hG : gok G) (hM : mok G M r_WP_of Q (KV G [23, 24, 30, 32, 33, 34] ad0 K)) (v1 : Int32) (v2 : Int32) (ρ : Rs) (F : semV G r_Wo_isState [] (fun ad => [.ref (ad (1, 0, 0)), .int v1]) ρ (fun ad u2 ρ1 => ∃ x4 : Int32, u2 = some (.int x4) ∧ ((x4 = 0 → (∀ ad, K ad (some (.int (-2))) ρ1)) ∧ (¬ x4 = 0 → ((v2 < 0 → (∀ ad, K ad (some (.int (-2))) ρ1)) ∧ (¬ v2 < 0 → ((v2 ≤ 4 → (semV G r_Wo_prepare [23, 24, 30] (fun ad => [.ref (ad (1, 0, 0))]) ρ1 (fun ad u6 ρ5 => u6 = none ∧ ((v2 = 0 → (semV G r_WP_findReached [32] (fun ad => [.ref (ad (0, 0, 0))]) ρ5 (fun ad u23 ρ22 => u23 = none ∧ (vp_in v1 (nR ρ22 (32, 0, 0)) ∧ (∀ ad, K ad (some (.int (iR ρ22 (32, 0, 0) (Int32.toNatClampNeg v1)))) ρ22))))) ∧ (¬ v2 = 0 → ((v2 = 4 → (semV G r_WP_findKinds [33, 34] (fun ad => [.ref (ad (0, 0, 0))]) ρ5 (fun ad u16 ρ15 => u16 = none ∧ (vp_in v1 (nR ρ15 (34, 2, 0)) ∧ (vp_in (iR ρ15 (34, 2, 0) (Int32.toNatClampNeg v1)) (nR ρ15 (34, 3, 0)) ∧ (∀ ad, K ad (some (.int (iR ρ15 (34, 3, 0) (Int32.toNatClampNeg (iR ρ15 (34, 2, 0) (Int32.toNatClampNeg v1)))))) ρ15)))))) ∧ (¬ v2 = 4 → (semV G r_WP_findNumbers [33] (fun ad => [.ref (ad (0, 0, 0)), .int v2]) ρ5 (fun ad u10 ρ9 => ∃ g12 : Ro, okR g12 = true ∧ tgR g12 = 50 ∧ u10 = some (.ref (ad g12)) ∧ (vp_in v1 (nR ρ9 g12) ∧ (∀ ad, K ad (some (.int (iR ρ9 g12 (Int32.toNatClampNeg v1)))) ρ9))))))))))) ∧ (¬ v2 ≤ 4 → (∀ ad, K ad (some (.int (-2))) ρ1))))))))) : Y G [23, 24, 30, 32, 33, 34] ad0 M Q 0 (fun ad => [(0, .ref (ad (0, 0, 0))), (1, .int v1), (2, .int v2)]) (fun ad => []) ρ := by
  intro ad h hSt V
  show X G M Q 0 [(0, .ref (ad (0, 0, 0))), (1, .int v1), (2, .int v2)] [] h
  refine x_aload_n hM d_WP_of_0 rfl 0 rfl ?_
  refine y_getr hG hM V ck_WP 0 (Nat.le_of_ble_eq_true rfl) rfl rfl w_402 rfl d_WP_of_1 (0, 0, 0) (1, 0, 0) rfl rfl rfl ?_
  refine x_iload_n hM d_WP_of_4 rfl 1 rfl ?_
  refine x_callV hG hM (r' := r_Wo_isState) (ci := 1) [.int v1] rfl rfl (Nat.le_of_ble_eq_true rfl) yk_Wo_isState ⟨Nat.le_of_ble_eq_true rfl, Nat.le_of_ble_eq_true rfl⟩ w_460 w_461 w_462 rfl rfl (Nat.le_of_ble_eq_true rfl) d_WP_of_5 (by rw [vT V rfl]; rfl) (sem_mono (F _ _ V) ?_)
  intro u2 h F
  obtain ⟨ad31, ρ1, V, hs3, F⟩ := F
  obtain ⟨x4, rfl, F⟩ := F
  have hs3 := (St_eq hs3).symm
  subst hs3
  refine x_if_eq (tgt := 20) hM d_WP_of_8 (by decide) (fun q30 => ?_) (fun q30 => ?_)
  · replace F := F.1 q30
    refine x_bipush (v := (-2)) hM d_WP_of_20 (by decide) ?_
    exact x_ireturn hM d_WP_of_22 rfl (y_end V hSt (F _))
  · replace F := F.2 q30
    refine x_iload_n hM d_WP_of_11 rfl 2 rfl ?_
    refine x_if_lt (tgt := 20) hM d_WP_of_12 (by decide) (fun q29 => ?_) (fun q29 => ?_)
    · replace F := F.1 q29
      refine x_bipush (v := (-2)) hM d_WP_of_20 (by decide) ?_
      exact x_ireturn hM d_WP_of_22 rfl (y_end V hSt (F _))
    · replace F := F.2 q29
      refine x_iload_n hM d_WP_of_15 rfl 2 rfl ?_
      refine x_iconst (v := 4) hM d_WP_of_16 (by decide) ?_
      refine x_icmp_le (tgt := 23) hM d_WP_of_17 (by decide) (fun q28 => ?_) (fun q28 => ?_)
      · replace F := F.1 q28
        refine x_aload_n hM d_WP_of_23 rfl 0 rfl ?_
        refine y_getr hG hM V ck_WP 0 (Nat.le_of_ble_eq_true rfl) rfl rfl w_402 rfl d_WP_of_24 (0, 0, 0) (1, 0, 0) rfl rfl rfl ?_
        refine x_callV hG hM (r' := r_Wo_prepare) (ci := 1) [] rfl rfl (Nat.le_of_ble_eq_true rfl) yk_Wo_prepare ⟨Nat.le_of_ble_eq_true rfl, Nat.le_of_ble_eq_true rfl⟩ w_577 w_578 w_579 rfl rfl (Nat.le_of_ble_eq_true rfl) d_WP_of_27 (by rw [vT V rfl]; rfl) (sem_mono (F _ _ V) ?_)
        intro u6 h F
        obtain ⟨ad8, ρ5, V, hs7, F⟩ := F
        obtain ⟨rfl, F⟩ := F
        have ea0 : ad8 (0, 0, 0) = ad (0, 0, 0) := hs7 _ (Or.inr rfl)
        rw [← ea0]
        replace hSt := St_tr hSt (St_mono (mv' := [23, 24, 30]) (by decide) hs7)
        refine x_iload_n hM d_WP_of_30 rfl 2 rfl ?_
        refine x_if_ne (tgt := 48) hM d_WP_of_31 (by decide) (fun q27 => ?_) (fun q27 => ?_)
        · replace F := F.2 q27
          refine x_iload_n hM d_WP_of_48 rfl 2 rfl ?_
          refine x_iconst (v := 4) hM d_WP_of_49 (by decide) ?_
          refine x_icmp_ne (tgt := 75) hM d_WP_of_50 (by decide) (fun q21 => ?_) (fun q21 => ?_)
          · replace F := F.2 q21
            refine x_aload_n hM d_WP_of_75 rfl 0 rfl ?_
            refine x_iload_n hM d_WP_of_76 rfl 2 rfl ?_
            refine x_callV hG hM (r' := r_WP_findNumbers) (ci := 0) [.int v2] rfl rfl (Nat.le_of_ble_eq_true rfl) yk_WP_findNumbers ⟨Nat.le_of_ble_eq_true rfl, Nat.le_of_ble_eq_true rfl⟩ w_650 w_652 ws_WP_findNumbers rfl rfl (Nat.le_of_ble_eq_true rfl) d_WP_of_77 (by rw [vT V rfl]; rfl) (sem_mono (F _ _ V) ?_)
            intro u10 h F
            obtain ⟨ad13, ρ9, V, hs11, F⟩ := F
            obtain ⟨g12, og12, tg12, rfl, F⟩ := F
            have ea0 : ad13 (0, 0, 0) = ad8 (0, 0, 0) := hs11 _ (Or.inr rfl)
            rw [← ea0]
            replace hSt := St_tr hSt (St_mono (mv' := [33]) (by decide) hs11)
            refine x_iload_n hM d_WP_of_80 rfl 1 rfl ?_
            obtain ⟨c14, F⟩ := F
            refine y_iaload hG hM V d_WP_of_81 g12 og12 tg12 c14 ?_
            exact x_ireturn hM d_WP_of_82 rfl (y_end V hSt (F _))
          · replace F := F.1 q21
            refine x_aload_n hM d_WP_of_53 rfl 0 rfl ?_
            refine x_callV hG hM (r' := r_WP_findKinds) (ci := 0) [] rfl rfl (Nat.le_of_ble_eq_true rfl) yk_WP_findKinds ⟨Nat.le_of_ble_eq_true rfl, Nat.le_of_ble_eq_true rfl⟩ w_694 w_696 ws_WP_findKinds rfl rfl (Nat.le_of_ble_eq_true rfl) d_WP_of_54 (by rw [vT V rfl]; rfl) (sem_mono (F _ _ V) ?_)
            intro u16 h F
            obtain ⟨ad18, ρ15, V, hs17, F⟩ := F
            obtain ⟨rfl, F⟩ := F
            have ea0 : ad18 (0, 0, 0) = ad8 (0, 0, 0) := hs17 _ (Or.inr rfl)
            rw [← ea0]
            replace hSt := St_tr hSt (St_mono (mv' := [33, 34]) (by decide) hs17)
            refine x_aload_n hM d_WP_of_57 rfl 0 rfl ?_
            refine y_getr hG hM V ck_WP 6 (Nat.le_of_ble_eq_true rfl) rfl rfl w_408 rfl d_WP_of_58 (0, 0, 0) (7, 0, 0) rfl rfl rfl ?_
            refine y_getr hG hM V ck_Ki 3 (Nat.le_of_ble_eq_true rfl) rfl rfl w_328 rfl d_WP_of_61 (7, 0, 0) (34, 3, 0) rfl rfl rfl ?_
            refine x_aload_n hM d_WP_of_64 rfl 0 rfl ?_
            refine y_getr hG hM V ck_WP 6 (Nat.le_of_ble_eq_true rfl) rfl rfl w_408 rfl d_WP_of_65 (0, 0, 0) (7, 0, 0) rfl rfl rfl ?_
            refine y_getr hG hM V ck_Ki 2 (Nat.le_of_ble_eq_true rfl) rfl rfl w_326 rfl d_WP_of_68 (7, 0, 0) (34, 2, 0) rfl rfl rfl ?_
            refine x_iload_n hM d_WP_of_71 rfl 1 rfl ?_
            obtain ⟨c19, F⟩ := F
            refine y_iaload hG hM V d_WP_of_72 (34, 2, 0) rfl rfl c19 ?_
            obtain ⟨c20, F⟩ := F
            refine y_iaload hG hM V d_WP_of_73 (34, 3, 0) rfl rfl c20 ?_
            exact x_ireturn hM d_WP_of_74 rfl (y_end V hSt (F _))
        · replace F := F.1 q27
          refine x_aload_n hM d_WP_of_34 rfl 0 rfl ?_
          refine x_callV hG hM (r' := r_WP_findReached) (ci := 0) [] rfl rfl (Nat.le_of_ble_eq_true rfl) yk_WP_findReached ⟨Nat.le_of_ble_eq_true rfl, Nat.le_of_ble_eq_true rfl⟩ w_616 w_618 ws_WP_findReached rfl rfl (Nat.le_of_ble_eq_true rfl) d_WP_of_35 (by rw [vT V rfl]; rfl) (sem_mono (F _ _ V) ?_)
          intro u23 h F
          obtain ⟨ad25, ρ22, V, hs24, F⟩ := F
          obtain ⟨rfl, F⟩ := F
          have ea0 : ad25 (0, 0, 0) = ad8 (0, 0, 0) := hs24 _ (Or.inr rfl)
          rw [← ea0]
          replace hSt := St_tr hSt (St_mono (mv' := [32]) (by decide) hs24)
          refine x_aload_n hM d_WP_of_38 rfl 0 rfl ?_
          refine y_getr hG hM V ck_WP 4 (Nat.le_of_ble_eq_true rfl) rfl rfl w_406 rfl d_WP_of_39 (0, 0, 0) (5, 0, 0) rfl rfl rfl ?_
          refine y_getr hG hM V ck_Re 0 (Nat.le_of_ble_eq_true rfl) rfl rfl w_257 rfl d_WP_of_42 (5, 0, 0) (32, 0, 0) rfl rfl rfl ?_
          refine x_iload_n hM d_WP_of_45 rfl 1 rfl ?_
          obtain ⟨c26, F⟩ := F
          refine y_iaload hG hM V d_WP_of_46 (32, 0, 0) rfl rfl c26 ?_
          exact x_ireturn hM d_WP_of_47 rfl (y_end V hSt (F _))
      · replace F := F.2 q28
        refine x_bipush (v := (-2)) hM d_WP_of_20 (by decide) ?_
        exact x_ireturn hM d_WP_of_22 rfl (y_end V hSt (F _))
set_option maxRecDepth 100000 in
set_option maxHeartbeats 4000000 in
theorem T_WP_best_0 {G : Gc} {M : Mc} {Q : State → Prop} {ad0 : Ro → Nat} {K : (Ro → Nat) → Option Value → Rs → Prop} (hG : gok G) (hM : mok G M r_WP_best Q (KV G [23, 24, 30, 33] ad0 K)) (v1 : Int32) (v2 : Int32) (ρ : Rs) (F : semV G r_Wo_isState [] (fun ad => [.ref (ad (1, 0, 0)), .int v1]) ρ (fun ad u2 ρ1 => ∃ x4 : Int32, u2 = some (.int x4) ∧ ((x4 = 0 → (∀ ad, K ad (some (.int (-2))) ρ1)) ∧ (¬ x4 = 0 → ((v2 < 1 → (∀ ad, K ad (some (.int (-2))) ρ1)) ∧ (¬ v2 < 1 → ((v2 ≤ 3 → (semV G r_Wo_prepare [23, 24, 30] (fun ad => [.ref (ad (1, 0, 0))]) ρ1 (fun ad u6 ρ5 => u6 = none ∧ (semV G r_WP_findNumbers [33] (fun ad => [.ref (ad (0, 0, 0)), .int v2]) ρ5 (fun ad u10 ρ9 => ∃ g12 : Ro, okR g12 = true ∧ tgR g12 = 50 ∧ u10 = some (.ref (ad g12)) ∧ (semV G r_Wi_leastAct [] (fun ad => [.ref (ad (6, 0, 0)), .ref (ad (1, 0, 0)), .ref (ad g12), .int v1, .int v2]) ρ9 (fun ad u15 ρ14 => ∃ x17 : Int32, u15 = some (.int x17) ∧ (∀ ad, K ad (some (.int x17)) ρ14)))))))) ∧ (¬ v2 ≤ 3 → (∀ ad, K ad (some (.int (-2))) ρ1))))))))) : Y G [23, 24, 30, 33] ad0 M Q 0 (fun ad => [(0, .ref (ad (0, 0, 0))), (1, .int v1), (2, .int v2)]) (fun ad => []) ρ := by
  intro ad h hSt V
  show X G M Q 0 [(0, .ref (ad (0, 0, 0))), (1, .int v1), (2, .int v2)] [] h
  refine x_aload_n hM d_WP_best_0 rfl 0 rfl ?_
  refine y_getr hG hM V ck_WP 0 (Nat.le_of_ble_eq_true rfl) rfl rfl w_402 rfl d_WP_best_1 (0, 0, 0) (1, 0, 0) rfl rfl rfl ?_
  refine x_iload_n hM d_WP_best_4 rfl 1 rfl ?_
  refine x_callV hG hM (r' := r_Wo_isState) (ci := 1) [.int v1] rfl rfl (Nat.le_of_ble_eq_true rfl) yk_Wo_isState ⟨Nat.le_of_ble_eq_true rfl, Nat.le_of_ble_eq_true rfl⟩ w_460 w_461 w_462 rfl rfl (Nat.le_of_ble_eq_true rfl) d_WP_best_5 (by rw [vT V rfl]; rfl) (sem_mono (F _ _ V) ?_)
  intro u2 h F
  obtain ⟨ad22, ρ1, V, hs3, F⟩ := F
  obtain ⟨x4, rfl, F⟩ := F
  have hs3 := (St_eq hs3).symm
  subst hs3
  refine x_if_eq (tgt := 21) hM d_WP_best_8 (by decide) (fun q21 => ?_) (fun q21 => ?_)
  · replace F := F.1 q21
    refine x_bipush (v := (-2)) hM d_WP_best_21 (by decide) ?_
    exact x_ireturn hM d_WP_best_23 rfl (y_end V hSt (F _))
  · replace F := F.2 q21
    refine x_iload_n hM d_WP_best_11 rfl 2 rfl ?_
    refine x_iconst (v := 1) hM d_WP_best_12 (by decide) ?_
    refine x_icmp_lt (tgt := 21) hM d_WP_best_13 (by decide) (fun q20 => ?_) (fun q20 => ?_)
    · replace F := F.1 q20
      refine x_bipush (v := (-2)) hM d_WP_best_21 (by decide) ?_
      exact x_ireturn hM d_WP_best_23 rfl (y_end V hSt (F _))
    · replace F := F.2 q20
      refine x_iload_n hM d_WP_best_16 rfl 2 rfl ?_
      refine x_iconst (v := 3) hM d_WP_best_17 (by decide) ?_
      refine x_icmp_le (tgt := 24) hM d_WP_best_18 (by decide) (fun q19 => ?_) (fun q19 => ?_)
      · replace F := F.1 q19
        refine x_aload_n hM d_WP_best_24 rfl 0 rfl ?_
        refine y_getr hG hM V ck_WP 0 (Nat.le_of_ble_eq_true rfl) rfl rfl w_402 rfl d_WP_best_25 (0, 0, 0) (1, 0, 0) rfl rfl rfl ?_
        refine x_callV hG hM (r' := r_Wo_prepare) (ci := 1) [] rfl rfl (Nat.le_of_ble_eq_true rfl) yk_Wo_prepare ⟨Nat.le_of_ble_eq_true rfl, Nat.le_of_ble_eq_true rfl⟩ w_577 w_578 w_579 rfl rfl (Nat.le_of_ble_eq_true rfl) d_WP_best_28 (by rw [vT V rfl]; rfl) (sem_mono (F _ _ V) ?_)
        intro u6 h F
        obtain ⟨ad8, ρ5, V, hs7, F⟩ := F
        obtain ⟨rfl, F⟩ := F
        have ea0 : ad8 (0, 0, 0) = ad (0, 0, 0) := hs7 _ (Or.inr rfl)
        rw [← ea0]
        replace hSt := St_tr hSt (St_mono (mv' := [23, 24, 30]) (by decide) hs7)
        refine x_aload_n hM d_WP_best_31 rfl 0 rfl ?_
        refine y_getr hG hM V ck_WP 5 (Nat.le_of_ble_eq_true rfl) rfl rfl w_407 rfl d_WP_best_32 (0, 0, 0) (6, 0, 0) rfl rfl rfl ?_
        refine x_aload_n hM d_WP_best_35 rfl 0 rfl ?_
        refine y_getr hG hM V ck_WP 0 (Nat.le_of_ble_eq_true rfl) rfl rfl w_402 rfl d_WP_best_36 (0, 0, 0) (1, 0, 0) rfl rfl rfl ?_
        refine x_aload_n hM d_WP_best_39 rfl 0 rfl ?_
        refine x_iload_n hM d_WP_best_40 rfl 2 rfl ?_
        refine x_callV hG hM (r' := r_WP_findNumbers) (ci := 0) [.int v2] rfl rfl (Nat.le_of_ble_eq_true rfl) yk_WP_findNumbers ⟨Nat.le_of_ble_eq_true rfl, Nat.le_of_ble_eq_true rfl⟩ w_650 w_652 ws_WP_findNumbers rfl rfl (Nat.le_of_ble_eq_true rfl) d_WP_best_41 (by rw [vT V rfl]; rfl) (sem_mono (F _ _ V) ?_)
        intro u10 h F
        obtain ⟨ad13, ρ9, V, hs11, F⟩ := F
        obtain ⟨g12, og12, tg12, rfl, F⟩ := F
        have ea0 : ad13 (0, 0, 0) = ad8 (0, 0, 0) := hs11 _ (Or.inr rfl)
        have ea1 : ad13 (1, 0, 0) = ad8 (1, 0, 0) := hs11 _ (Or.inr rfl)
        have ea2 : ad13 (6, 0, 0) = ad8 (6, 0, 0) := hs11 _ (Or.inr rfl)
        rw [← ea0, ← ea1, ← ea2]
        replace hSt := St_tr hSt (St_mono (mv' := [33]) (by decide) hs11)
        refine x_iload_n hM d_WP_best_44 rfl 1 rfl ?_
        refine x_iload_n hM d_WP_best_45 rfl 2 rfl ?_
        refine x_callV hG hM (r' := r_Wi_leastAct) (ci := 8) [.ref (ad13 (1, 0, 0)), .ref (ad13 g12), .int v1, .int v2] rfl rfl (Nat.le_of_ble_eq_true rfl) yk_Wi_leastAct ⟨Nat.le_of_ble_eq_true rfl, Nat.le_of_ble_eq_true rfl⟩ w_776 w_777 w_778 rfl rfl (Nat.le_of_ble_eq_true rfl) d_WP_best_46 (by rw [vT V rfl]; rfl) (sem_mono (F _ _ V) ?_)
        intro u15 h F
        obtain ⟨ad18, ρ14, V, hs16, F⟩ := F
        obtain ⟨x17, rfl, F⟩ := F
        have hs16 := (St_eq hs16).symm
        subst hs16
        exact x_ireturn hM d_WP_best_49 rfl (y_end V hSt (F _))
      · replace F := F.2 q19
        refine x_bipush (v := (-2)) hM d_WP_best_21 (by decide) ?_
        exact x_ireturn hM d_WP_best_23 rfl (y_end V hSt (F _))
set_option maxRecDepth 100000 in
set_option maxHeartbeats 4000000 in
theorem T_WP_play_0 {G : Gc} {M : Mc} {Q : State → Prop} {ad0 : Ro → Nat} {K : (Ro → Nat) → Option Value → Rs → Prop} (hG : gok G) (hM : mok G M r_WP_play Q (KV G [23, 24, 30, 33] ad0 K)) (v1 : Int32) (v2 : Int32) (ρ : Rs) (F : (v2 < 0 → (∀ ad, K ad (some (.int (-2))) ρ)) ∧ (¬ v2 < 0 → ((v2 ≤ 2 → (semV G r_Wo_prepare [23, 24, 30] (fun ad => [.ref (ad (1, 0, 0))]) ρ (fun ad u2 ρ1 => u2 = none ∧ (semV G r_WP_findNumbers [33] (fun ad => [.ref (ad (0, 0, 0)), .int 1]) ρ1 (fun ad u6 ρ5 => ∃ g8 : Ro, okR g8 = true ∧ tgR g8 = 50 ∧ u6 = some (.ref (ad g8)) ∧ ((v1 < 0 → (∀ ad, K ad (some (.int (-1))) ρ5)) ∧ (¬ v1 < 0 → (vp_in (iR ρ5 (0, 0, 0) 8) (nR ρ5 g8) ∧ ((v1 < (iR ρ5 g8 (Int32.toNatClampNeg (iR ρ5 (0, 0, 0) 8))) → (Y G [23, 24, 30, 33] ad0 M Q 53 (fun ad => [(0, .ref (ad (0, 0, 0))), (1, .int v1), (2, .int v2), (4, .int (iR ρ5 (0, 0, 0) 8)), (5, .int (-1)), (6, .int 0)]) (fun ad => []) ρ5)) ∧ (¬ v1 < (iR ρ5 g8 (Int32.toNatClampNeg (iR ρ5 (0, 0, 0) 8))) → (∀ ad, K ad (some (.int (-1))) ρ5))))))))))) ∧ (¬ v2 ≤ 2 → (∀ ad, K ad (some (.int (-2))) ρ))))) : Y G [23, 24, 30, 33] ad0 M Q 0 (fun ad => [(0, .ref (ad (0, 0, 0))), (1, .int v1), (2, .int v2)]) (fun ad => []) ρ := by
  intro ad h hSt V
  show X G M Q 0 [(0, .ref (ad (0, 0, 0))), (1, .int v1), (2, .int v2)] [] h
  refine x_iload_n hM d_WP_play_0 rfl 2 rfl ?_
  refine x_if_lt (tgt := 9) hM d_WP_play_1 (by decide) (fun q14 => ?_) (fun q14 => ?_)
  · replace F := F.1 q14
    refine x_bipush (v := (-2)) hM d_WP_play_9 (by decide) ?_
    exact x_ireturn hM d_WP_play_11 rfl (y_end V hSt (F _))
  · replace F := F.2 q14
    refine x_iload_n hM d_WP_play_4 rfl 2 rfl ?_
    refine x_iconst (v := 2) hM d_WP_play_5 (by decide) ?_
    refine x_icmp_le (tgt := 12) hM d_WP_play_6 (by decide) (fun q13 => ?_) (fun q13 => ?_)
    · replace F := F.1 q13
      refine x_aload_n hM d_WP_play_12 rfl 0 rfl ?_
      refine y_getr hG hM V ck_WP 0 (Nat.le_of_ble_eq_true rfl) rfl rfl w_402 rfl d_WP_play_13 (0, 0, 0) (1, 0, 0) rfl rfl rfl ?_
      refine x_callV hG hM (r' := r_Wo_prepare) (ci := 1) [] rfl rfl (Nat.le_of_ble_eq_true rfl) yk_Wo_prepare ⟨Nat.le_of_ble_eq_true rfl, Nat.le_of_ble_eq_true rfl⟩ w_577 w_578 w_579 rfl rfl (Nat.le_of_ble_eq_true rfl) d_WP_play_16 (by rw [vT V rfl]; rfl) (sem_mono (F _ _ V) ?_)
      intro u2 h F
      obtain ⟨ad4, ρ1, V, hs3, F⟩ := F
      obtain ⟨rfl, F⟩ := F
      have ea0 : ad4 (0, 0, 0) = ad (0, 0, 0) := hs3 _ (Or.inr rfl)
      rw [← ea0]
      replace hSt := St_tr hSt (St_mono (mv' := [23, 24, 30]) (by decide) hs3)
      refine x_aload_n hM d_WP_play_19 rfl 0 rfl ?_
      refine x_iconst (v := 1) hM d_WP_play_20 (by decide) ?_
      refine x_callV hG hM (r' := r_WP_findNumbers) (ci := 0) [.int 1] rfl rfl (Nat.le_of_ble_eq_true rfl) yk_WP_findNumbers ⟨Nat.le_of_ble_eq_true rfl, Nat.le_of_ble_eq_true rfl⟩ w_650 w_652 ws_WP_findNumbers rfl rfl (Nat.le_of_ble_eq_true rfl) d_WP_play_21 (by rw [vT V rfl]; rfl) (sem_mono (F _ _ V) ?_)
      intro u6 h F
      obtain ⟨ad9, ρ5, V, hs7, F⟩ := F
      obtain ⟨g8, og8, tg8, rfl, F⟩ := F
      have ea0 : ad9 (0, 0, 0) = ad4 (0, 0, 0) := hs7 _ (Or.inr rfl)
      rw [← ea0]
      replace hSt := St_tr hSt (St_mono (mv' := [33]) (by decide) hs7)
      refine x_astore_n (lv2 := [(3, .ref (ad9 g8)), (0, .ref (ad9 (0, 0, 0))), (1, .int v1), (2, .int v2)]) hM d_WP_play_24 rfl (Nat.le_of_ble_eq_true rfl) rfl ?_
      refine x_iload_n hM d_WP_play_25 rfl 2 rfl ?_
      refine x_if_lt (tgt := 39) hM d_WP_play_26 (by decide) (fun q12 => ?_) (fun q12 => ?_)
      · replace F := F.1 q12
        refine x_iconst (v := (-1)) hM d_WP_play_39 (by decide) ?_
        exact x_ireturn hM d_WP_play_40 rfl (y_end V hSt (F _))
      · replace F := F.2 q12
        refine x_iload_n hM d_WP_play_29 rfl 2 rfl ?_
        refine x_aload_n hM d_WP_play_30 rfl 0 rfl ?_
        refine x_aload_n hM d_WP_play_31 rfl 1 rfl ?_
        refine y_geti hG hM V ck_WP 8 (Nat.le_of_ble_eq_true rfl) rfl rfl w_410 rfl d_WP_play_32 (0, 0, 0) rfl rfl ?_
        obtain ⟨c10, F⟩ := F
        refine y_iaload hG hM V d_WP_play_35 g8 og8 tg8 c10 ?_
        refine x_icmp_lt (tgt := 41) hM d_WP_play_36 (by decide) (fun q11 => ?_) (fun q11 => ?_)
        · replace F := F.1 q11
          refine x_aload_n hM d_WP_play_41 rfl 1 rfl ?_
          refine y_geti hG hM V ck_WP 8 (Nat.le_of_ble_eq_true rfl) rfl rfl w_410 rfl d_WP_play_42 (0, 0, 0) rfl rfl ?_
          refine x_istore (lv2 := [(4, .int (iR ρ5 (0, 0, 0) 8)), (3, .ref (ad9 g8)), (0, .ref (ad9 (0, 0, 0))), (1, .int v1), (2, .int v2)]) hM d_WP_play_45 (Nat.le_of_ble_eq_true rfl) rfl ?_
          refine x_iconst (v := (-1)) hM d_WP_play_47 (by decide) ?_
          refine x_istore (lv2 := [(5, .int (-1)), (4, .int (iR ρ5 (0, 0, 0) 8)), (3, .ref (ad9 g8)), (0, .ref (ad9 (0, 0, 0))), (1, .int v1), (2, .int v2)]) hM d_WP_play_48 (Nat.le_of_ble_eq_true rfl) rfl ?_
          refine x_iconst (v := 0) hM d_WP_play_50 (by decide) ?_
          refine x_istore (lv2 := [(6, .int 0), (5, .int (-1)), (4, .int (iR ρ5 (0, 0, 0) 8)), (3, .ref (ad9 g8)), (0, .ref (ad9 (0, 0, 0))), (1, .int v1), (2, .int v2)]) hM d_WP_play_51 (Nat.le_of_ble_eq_true rfl) rfl ?_
          refine x_sub [4, 5, 6, 2, 1, 0] rfl ?_
          exact F _ _ hSt V
        · replace F := F.2 q11
          refine x_iconst (v := (-1)) hM d_WP_play_39 (by decide) ?_
          exact x_ireturn hM d_WP_play_40 rfl (y_end V hSt (F _))
    · replace F := F.2 q13
      refine x_bipush (v := (-2)) hM d_WP_play_9 (by decide) ?_
      exact x_ireturn hM d_WP_play_11 rfl (y_end V hSt (F _))
set_option maxRecDepth 100000 in
set_option maxHeartbeats 4000000 in
theorem T_WP_play_53 {G : Gc} {M : Mc} {Q : State → Prop} {ad0 : Ro → Nat} {K : (Ro → Nat) → Option Value → Rs → Prop} (hG : gok G) (hM : mok G M r_WP_play Q (KV G [23, 24, 30, 33] ad0 K)) (v1 : Int32) (v2 : Int32) (v4 : Int32) (v5 : Int32) (v6 : Int32) (ρ : Rs) (F : (v1 < v6 → ((v2 = 0 → (semV G r_WP_actOf [] (fun ad => [.int v5]) ρ (fun ad u8 ρ7 => ∃ x10 : Int32, u8 = some (.int x10) ∧ (∀ ad, K ad (some (.int x10)) ρ7)))) ∧ (¬ v2 = 0 → ((v2 = 1 → (semV G r_WP_outcomeOf [] (fun ad => [.int v5]) ρ (fun ad u2 ρ1 => ∃ x4 : Int32, u2 = some (.int x4) ∧ (∀ ad, K ad (some (.int x4)) ρ1)))) ∧ (¬ v2 = 1 → (∀ ad, K ad (some (.int v4)) ρ)))))) ∧ (¬ v1 < v6 → (semV G r_Wi_firstStep [] (fun ad => [.ref (ad (6, 0, 0)), .ref (ad (1, 0, 0)), .int v4]) ρ (fun ad u14 ρ13 => ∃ x16 : Int32, u14 = some (.int x16) ∧ ((x16 = (-1) → (∀ ad, K ad (some (.int (-1))) ρ13)) ∧ (¬ x16 = (-1) → (semV G r_Wo_behind [] (fun ad => [.ref (ad (1, 0, 0)), .int x16]) ρ13 (fun ad u18 ρ17 => ∃ x20 : Int32, u18 = some (.int x20) ∧ (Y G [23, 24, 30, 33] ad0 M Q 53 (fun ad => [(0, .ref (ad (0, 0, 0))), (1, .int v1), (2, .int v2), (4, .int x20), (5, .int x16), (6, .int (v6 + 1))]) (fun ad => []) ρ17))))))))) : Y G [23, 24, 30, 33] ad0 M Q 53 (fun ad => [(0, .ref (ad (0, 0, 0))), (1, .int v1), (2, .int v2), (4, .int v4), (5, .int v5), (6, .int v6)]) (fun ad => []) ρ := by
  intro ad h hSt V
  show X G M Q 53 [(0, .ref (ad (0, 0, 0))), (1, .int v1), (2, .int v2), (4, .int v4), (5, .int v5), (6, .int v6)] [] h
  refine x_iload hM d_WP_play_53 5 rfl ?_
  refine x_iload_n hM d_WP_play_55 rfl 1 rfl ?_
  refine x_icmp_gt (tgt := 99) hM d_WP_play_56 (by decide) (fun q24 => ?_) (fun q24 => ?_)
  · replace F := F.1 q24
    refine x_iload_n hM d_WP_play_99 rfl 2 rfl ?_
    refine x_if_ne (tgt := 109) hM d_WP_play_100 (by decide) (fun q12 => ?_) (fun q12 => ?_)
    · replace F := F.2 q12
      refine x_iload_n hM d_WP_play_109 rfl 2 rfl ?_
      refine x_iconst (v := 1) hM d_WP_play_110 (by decide) ?_
      refine x_icmp_ne (tgt := 122) hM d_WP_play_111 (by decide) (fun q6 => ?_) (fun q6 => ?_)
      · replace F := F.2 q6
        refine x_iload hM d_WP_play_122 3 rfl ?_
        exact x_ireturn hM d_WP_play_124 rfl (y_end V hSt (F _))
      · replace F := F.1 q6
        refine x_iload hM d_WP_play_114 4 rfl ?_
        refine x_callS hG hM (r' := r_WP_outcomeOf) [.int v5] rfl yk_WP_outcomeOf ⟨Nat.le_of_ble_eq_true rfl, Nat.le_of_ble_eq_true rfl⟩ w_804 w_800 rfl rfl (Nat.le_of_ble_eq_true rfl) d_WP_play_116 (sem_mono (F _ _ V) ?_)
        intro u2 h F
        obtain ⟨ad5, ρ1, V, hs3, F⟩ := F
        obtain ⟨x4, rfl, F⟩ := F
        have hs3 := (St_eq hs3).symm
        subst hs3
        refine x_goto (tgt := 124) hM d_WP_play_119 (by decide) ?_
        exact x_ireturn hM d_WP_play_124 rfl (y_end V hSt (F _))
    · replace F := F.1 q12
      refine x_iload hM d_WP_play_103 4 rfl ?_
      refine x_callS hG hM (r' := r_WP_actOf) [.int v5] rfl yk_WP_actOf ⟨Nat.le_of_ble_eq_true rfl, Nat.le_of_ble_eq_true rfl⟩ w_803 w_672 rfl rfl (Nat.le_of_ble_eq_true rfl) d_WP_play_105 (sem_mono (F _ _ V) ?_)
      intro u8 h F
      obtain ⟨ad11, ρ7, V, hs9, F⟩ := F
      obtain ⟨x10, rfl, F⟩ := F
      have hs9 := (St_eq hs9).symm
      subst hs9
      exact x_ireturn hM d_WP_play_108 rfl (y_end V hSt (F _))
  · replace F := F.2 q24
    refine x_aload_n hM d_WP_play_59 rfl 0 rfl ?_
    refine y_getr hG hM V ck_WP 5 (Nat.le_of_ble_eq_true rfl) rfl rfl w_407 rfl d_WP_play_60 (0, 0, 0) (6, 0, 0) rfl rfl rfl ?_
    refine x_aload_n hM d_WP_play_63 rfl 0 rfl ?_
    refine y_getr hG hM V ck_WP 0 (Nat.le_of_ble_eq_true rfl) rfl rfl w_402 rfl d_WP_play_64 (0, 0, 0) (1, 0, 0) rfl rfl rfl ?_
    refine x_iload hM d_WP_play_67 3 rfl ?_
    refine x_callV hG hM (r' := r_Wi_firstStep) (ci := 8) [.ref (ad (1, 0, 0)), .int v4] rfl rfl (Nat.le_of_ble_eq_true rfl) yk_Wi_firstStep ⟨Nat.le_of_ble_eq_true rfl, Nat.le_of_ble_eq_true rfl⟩ w_789 w_790 w_791 rfl rfl (Nat.le_of_ble_eq_true rfl) d_WP_play_69 (by rw [vT V rfl]; rfl) (sem_mono (F _ _ V) ?_)
    intro u14 h F
    obtain ⟨ad23, ρ13, V, hs15, F⟩ := F
    obtain ⟨x16, rfl, F⟩ := F
    have hs15 := (St_eq hs15).symm
    subst hs15
    refine x_istore (lv2 := [(5, .int x16), (0, .ref (ad (0, 0, 0))), (1, .int v1), (2, .int v2), (4, .int v4), (6, .int v6)]) hM d_WP_play_72 (Nat.le_of_ble_eq_true rfl) rfl ?_
    refine x_iload hM d_WP_play_74 0 rfl ?_
    refine x_iconst (v := (-1)) hM d_WP_play_76 (by decide) ?_
    refine x_icmp_ne (tgt := 82) hM d_WP_play_77 (by decide) (fun q22 => ?_) (fun q22 => ?_)
    · replace F := F.2 q22
      refine x_aload_n hM d_WP_play_82 rfl 1 rfl ?_
      refine y_getr hG hM V ck_WP 0 (Nat.le_of_ble_eq_true rfl) rfl rfl w_402 rfl d_WP_play_83 (0, 0, 0) (1, 0, 0) rfl rfl rfl ?_
      refine x_iload hM d_WP_play_86 0 rfl ?_
      refine x_callV hG hM (r' := r_Wo_behind) (ci := 1) [.int x16] rfl rfl (Nat.le_of_ble_eq_true rfl) yk_Wo_behind ⟨Nat.le_of_ble_eq_true rfl, Nat.le_of_ble_eq_true rfl⟩ w_794 w_795 w_796 rfl rfl (Nat.le_of_ble_eq_true rfl) d_WP_play_88 (by rw [vT V rfl]; rfl) (sem_mono (F _ _ V) ?_)
      intro u18 h F
      obtain ⟨ad21, ρ17, V, hs19, F⟩ := F
      obtain ⟨x20, rfl, F⟩ := F
      have hs19 := (St_eq hs19).symm
      subst hs19
      refine x_istore (lv2 := [(4, .int x20), (5, .int x16), (0, .ref (ad (0, 0, 0))), (1, .int v1), (2, .int v2), (6, .int v6)]) hM d_WP_play_91 (Nat.le_of_ble_eq_true rfl) rfl ?_
      refine x_iinc (v := (v6 + 1)) (lv2 := [(6, .int (v6 + 1)), (4, .int x20), (5, .int x16), (0, .ref (ad (0, 0, 0))), (1, .int v1), (2, .int v2)]) hM d_WP_play_93 (j := 5) rfl rfl (Nat.le_of_ble_eq_true rfl) rfl ?_
      refine x_goto (tgt := 53) hM d_WP_play_96 (by decide) ?_
      refine x_sub [3, 4, 5, 1, 2, 0] rfl ?_
      exact F _ _ hSt V
    · replace F := F.1 q22
      refine x_iconst (v := (-1)) hM d_WP_play_80 (by decide) ?_
      exact x_ireturn hM d_WP_play_81 rfl (y_end V hSt (F _))
set_option maxRecDepth 100000 in
set_option maxHeartbeats 4000000 in
theorem T_WP_plays_0 {G : Gc} {M : Mc} {Q : State → Prop} {ad0 : Ro → Nat} {K : (Ro → Nat) → Option Value → Rs → Prop} (hG : gok G) (hM : mok G M r_WP_plays Q (KV G [23, 24, 30, 32, 33] ad0 K))  (ρ : Rs) (F : semV G r_Wo_prepare [23, 24, 30] (fun ad => [.ref (ad (1, 0, 0))]) ρ (fun ad u2 ρ1 => u2 = none ∧ (semV G r_WP_findReached [32] (fun ad => [.ref (ad (0, 0, 0))]) ρ1 (fun ad u6 ρ5 => u6 = none ∧ (semV G r_WP_findAim [33] (fun ad => [.ref (ad (0, 0, 0))]) ρ5 (fun ad u10 ρ9 => u10 = none ∧ (Y G [23, 24, 30, 32, 33] ad0 M Q 24 (fun ad => [(0, .ref (ad (0, 0, 0))), (1, .int 4096), (2, .long 0), (4, .int 0)]) (fun ad => []) ρ9))))))) : Y G [23, 24, 30, 32, 33] ad0 M Q 0 (fun ad => [(0, .ref (ad (0, 0, 0)))]) (fun ad => []) ρ := by
  intro ad h hSt V
  show X G M Q 0 [(0, .ref (ad (0, 0, 0)))] [] h
  refine x_aload_n hM d_WP_plays_0 rfl 0 rfl ?_
  refine y_getr hG hM V ck_WP 0 (Nat.le_of_ble_eq_true rfl) rfl rfl w_402 rfl d_WP_plays_1 (0, 0, 0) (1, 0, 0) rfl rfl rfl ?_
  refine x_callV hG hM (r' := r_Wo_prepare) (ci := 1) [] rfl rfl (Nat.le_of_ble_eq_true rfl) yk_Wo_prepare ⟨Nat.le_of_ble_eq_true rfl, Nat.le_of_ble_eq_true rfl⟩ w_577 w_578 w_579 rfl rfl (Nat.le_of_ble_eq_true rfl) d_WP_plays_4 (by rw [vT V rfl]; rfl) (sem_mono (F _ _ V) ?_)
  intro u2 h F
  obtain ⟨ad4, ρ1, V, hs3, F⟩ := F
  obtain ⟨rfl, F⟩ := F
  have ea0 : ad4 (0, 0, 0) = ad (0, 0, 0) := hs3 _ (Or.inr rfl)
  rw [← ea0]
  replace hSt := St_tr hSt (St_mono (mv' := [23, 24, 30]) (by decide) hs3)
  refine x_aload_n hM d_WP_plays_7 rfl 0 rfl ?_
  refine x_callV hG hM (r' := r_WP_findReached) (ci := 0) [] rfl rfl (Nat.le_of_ble_eq_true rfl) yk_WP_findReached ⟨Nat.le_of_ble_eq_true rfl, Nat.le_of_ble_eq_true rfl⟩ w_616 w_618 ws_WP_findReached rfl rfl (Nat.le_of_ble_eq_true rfl) d_WP_plays_8 (by rw [vT V rfl]; rfl) (sem_mono (F _ _ V) ?_)
  intro u6 h F
  obtain ⟨ad8, ρ5, V, hs7, F⟩ := F
  obtain ⟨rfl, F⟩ := F
  have ea0 : ad8 (0, 0, 0) = ad4 (0, 0, 0) := hs7 _ (Or.inr rfl)
  rw [← ea0]
  replace hSt := St_tr hSt (St_mono (mv' := [32]) (by decide) hs7)
  refine x_aload_n hM d_WP_plays_11 rfl 0 rfl ?_
  refine x_callV hG hM (r' := r_WP_findAim) (ci := 0) [] rfl rfl (Nat.le_of_ble_eq_true rfl) yk_WP_findAim ⟨Nat.le_of_ble_eq_true rfl, Nat.le_of_ble_eq_true rfl⟩ w_638 w_640 ws_WP_findAim rfl rfl (Nat.le_of_ble_eq_true rfl) d_WP_plays_12 (by rw [vT V rfl]; rfl) (sem_mono (F _ _ V) ?_)
  intro u10 h F
  obtain ⟨ad12, ρ9, V, hs11, F⟩ := F
  obtain ⟨rfl, F⟩ := F
  have ea0 : ad12 (0, 0, 0) = ad8 (0, 0, 0) := hs11 _ (Or.inr rfl)
  rw [← ea0]
  replace hSt := St_tr hSt (St_mono (mv' := [33]) (by decide) hs11)
  refine x_sipush (v := 4096) hM d_WP_plays_15 (by decide) ?_
  refine x_istore_n (lv2 := [(1, .int 4096), (0, .ref (ad12 (0, 0, 0)))]) hM d_WP_plays_18 rfl (Nat.le_of_ble_eq_true rfl) rfl ?_
  refine x_lconst (v := 0) hM d_WP_plays_19 (by decide) ?_
  refine x_lstore_n (lv2 := [(2, .long 0), (1, .int 4096), (0, .ref (ad12 (0, 0, 0)))]) hM d_WP_plays_20 rfl (Nat.le_of_ble_eq_true rfl) rfl ?_
  refine x_iconst (v := 0) hM d_WP_plays_21 (by decide) ?_
  refine x_istore (lv2 := [(4, .int 0), (2, .long 0), (1, .int 4096), (0, .ref (ad12 (0, 0, 0)))]) hM d_WP_plays_22 (Nat.le_of_ble_eq_true rfl) rfl ?_
  refine x_sub [3, 2, 1, 0] rfl ?_
  exact F _ _ hSt V
set_option maxRecDepth 100000 in
set_option maxHeartbeats 4000000 in
theorem T_WP_plays_24 {G : Gc} {M : Mc} {Q : State → Prop} {ad0 : Ro → Nat} {K : (Ro → Nat) → Option Value → Rs → Prop} (hG : gok G) (hM : mok G M r_WP_plays Q (KV G [23, 24, 30, 32, 33] ad0 K)) (v1 : Int32) (v2 : Int64) (v4 : Int32) (ρ : Rs) (F : ((iR ρ (1, 0, 0) 1) ≤ v4 → (∀ ad, K ad (some (.long v2)) ρ)) ∧ (¬ (iR ρ (1, 0, 0) 1) ≤ v4 → (vp_in v4 (nR ρ (32, 0, 0)) ∧ (vp_in v4 (nR ρ (33, 0, 0)) ∧ ((¬ (iR ρ (33, 0, 0) (Int32.toNatClampNeg v4)) = 0 → (¬ (iR ρ (32, 0, 0) (Int32.toNatClampNeg v4)) = (-1) → ((iR ρ (32, 0, 0) (Int32.toNatClampNeg v4)) ≤ v1 → ((v1 ≤ (iR ρ (32, 0, 0) (Int32.toNatClampNeg v4)) → vp_in v4 (nR ρ (32, 1, 0))) ∧ (¬ v1 ≤ (iR ρ (32, 0, 0) (Int32.toNatClampNeg v4)) → vp_in v4 (nR ρ (32, 1, 0))))))) ∧ (∀ z7 : Int32, z7 = (if (iR ρ (33, 0, 0) (Int32.toNatClampNeg v4)) = 0 then v1 else (if (iR ρ (32, 0, 0) (Int32.toNatClampNeg v4)) = (-1) then v1 else (if (iR ρ (32, 0, 0) (Int32.toNatClampNeg v4)) ≤ v1 then (iR ρ (32, 0, 0) (Int32.toNatClampNeg v4)) else v1))) → (∀ z8 : Int64, z8 = (if (iR ρ (33, 0, 0) (Int32.toNatClampNeg v4)) = 0 then v2 else (if (iR ρ (32, 0, 0) (Int32.toNatClampNeg v4)) = (-1) then v2 else (if (iR ρ (32, 0, 0) (Int32.toNatClampNeg v4)) ≤ v1 then (if v1 ≤ (iR ρ (32, 0, 0) (Int32.toNatClampNeg v4)) then (v2 + (lR ρ (32, 1, 0) (Int32.toNatClampNeg v4))) else (lR ρ (32, 1, 0) (Int32.toNatClampNeg v4))) else v2))) → (Y G [23, 24, 30, 32, 33] ad0 M Q 24 (fun ad => [(0, .ref (ad (0, 0, 0))), (1, .int z7), (2, .long z8), (4, .int (v4 + 1))]) (fun ad => []) ρ)))))))) : Y G [23, 24, 30, 32, 33] ad0 M Q 24 (fun ad => [(0, .ref (ad (0, 0, 0))), (1, .int v1), (2, .long v2), (4, .int v4)]) (fun ad => []) ρ := by
  intro ad h hSt V
  show X G M Q 24 [(0, .ref (ad (0, 0, 0))), (1, .int v1), (2, .long v2), (4, .int v4)] [] h
  refine x_iload hM d_WP_plays_24 3 rfl ?_
  refine x_aload_n hM d_WP_plays_26 rfl 0 rfl ?_
  refine y_getr hG hM V ck_WP 0 (Nat.le_of_ble_eq_true rfl) rfl rfl w_402 rfl d_WP_plays_27 (0, 0, 0) (1, 0, 0) rfl rfl rfl ?_
  refine y_geti hG hM V ck_Wo 1 (Nat.le_of_ble_eq_true rfl) rfl rfl w_132 rfl d_WP_plays_30 (1, 0, 0) rfl rfl ?_
  refine x_icmp_ge (tgt := 117) hM d_WP_plays_33 (by decide) (fun q13 => ?_) (fun q13 => ?_)
  · replace F := F.1 q13
    refine x_lload_n hM d_WP_plays_117 rfl 2 rfl ?_
    exact x_lreturn hM d_WP_plays_118 rfl (y_end V hSt (F _))
  · replace F := F.2 q13
    refine x_aload_n hM d_WP_plays_36 rfl 0 rfl ?_
    refine y_getr hG hM V ck_WP 4 (Nat.le_of_ble_eq_true rfl) rfl rfl w_406 rfl d_WP_plays_37 (0, 0, 0) (5, 0, 0) rfl rfl rfl ?_
    refine y_getr hG hM V ck_Re 0 (Nat.le_of_ble_eq_true rfl) rfl rfl w_257 rfl d_WP_plays_40 (5, 0, 0) (32, 0, 0) rfl rfl rfl ?_
    refine x_iload hM d_WP_plays_43 3 rfl ?_
    obtain ⟨c3, F⟩ := F
    refine y_iaload hG hM V d_WP_plays_45 (32, 0, 0) rfl rfl c3 ?_
    refine x_istore (lv2 := [(5, .int (iR ρ (32, 0, 0) (Int32.toNatClampNeg v4))), (0, .ref (ad (0, 0, 0))), (1, .int v1), (2, .long v2), (4, .int v4)]) hM d_WP_plays_46 (Nat.le_of_ble_eq_true rfl) rfl ?_
    refine x_aload_n hM d_WP_plays_48 rfl 1 rfl ?_
    refine y_getr hG hM V ck_WP 5 (Nat.le_of_ble_eq_true rfl) rfl rfl w_407 rfl d_WP_plays_49 (0, 0, 0) (6, 0, 0) rfl rfl rfl ?_
    refine y_getr hG hM V ck_Wi 0 (Nat.le_of_ble_eq_true rfl) rfl rfl w_284 rfl d_WP_plays_52 (6, 0, 0) (33, 0, 0) rfl rfl rfl ?_
    refine x_iload hM d_WP_plays_55 4 rfl ?_
    obtain ⟨c4, F⟩ := F
    refine y_zaload hG hM V d_WP_plays_57 (33, 0, 0) rfl rfl c4 ?_
    obtain ⟨S, F⟩ := F
    have JJ : ∀ (z7 : Int32) (ez7 : z7 = (if (iR ρ (33, 0, 0) (Int32.toNatClampNeg v4)) = 0 then v1 else (if (iR ρ (32, 0, 0) (Int32.toNatClampNeg v4)) = (-1) then v1 else (if (iR ρ (32, 0, 0) (Int32.toNatClampNeg v4)) ≤ v1 then (iR ρ (32, 0, 0) (Int32.toNatClampNeg v4)) else v1)))) (z8 : Int64) (ez8 : z8 = (if (iR ρ (33, 0, 0) (Int32.toNatClampNeg v4)) = 0 then v2 else (if (iR ρ (32, 0, 0) (Int32.toNatClampNeg v4)) = (-1) then v2 else (if (iR ρ (32, 0, 0) (Int32.toNatClampNeg v4)) ≤ v1 then (if v1 ≤ (iR ρ (32, 0, 0) (Int32.toNatClampNeg v4)) then (v2 + (lR ρ (32, 1, 0) (Int32.toNatClampNeg v4))) else (lR ρ (32, 1, 0) (Int32.toNatClampNeg v4))) else v2)))), X G M Q 111 [(0, .ref (ad (0, 0, 0))), (1, .int z7), (2, .long z8), (4, .int v4)] [] h := by
      intro z7 ez7 z8 ez8
      replace F := F _ ez7 _ ez8
      refine x_iinc (v := (v4 + 1)) (lv2 := [(4, .int (v4 + 1)), (0, .ref (ad (0, 0, 0))), (1, .int z7), (2, .long z8)]) hM d_WP_plays_111 (j := 3) rfl rfl (Nat.le_of_ble_eq_true rfl) rfl ?_
      refine x_goto (tgt := 24) hM d_WP_plays_114 (by decide) ?_
      refine x_sub [1, 2, 3, 0] rfl ?_
      exact F _ _ hSt V
    refine x_if_eq (tgt := 111) hM d_WP_plays_58 (by decide) (fun q9 => ?_) (fun q9 => ?_)
    · refine x_sub [1, 2, 3, 4] rfl ?_
      exact JJ _ (Eq.symm (if_pos q9)) _ (Eq.symm (if_pos q9))
    · replace S := S q9
      refine x_iload hM d_WP_plays_61 0 rfl ?_
      refine x_iconst (v := (-1)) hM d_WP_plays_63 (by decide) ?_
      refine x_icmp_eq (tgt := 111) hM d_WP_plays_64 (by decide) (fun q10 => ?_) (fun q10 => ?_)
      · refine x_sub [1, 2, 3, 4] rfl ?_
        exact JJ _ (Eq.symm (Eq.trans (if_neg q9) (if_pos q10))) _ (Eq.symm (Eq.trans (if_neg q9) (if_pos q10)))
      · replace S := S q10
        refine x_iload hM d_WP_plays_67 0 rfl ?_
        refine x_iload_n hM d_WP_plays_69 rfl 2 rfl ?_
        refine x_icmp_le (tgt := 76) hM d_WP_plays_70 (by decide) (fun q11 => ?_) (fun q11 => ?_)
        · replace S := S q11
          refine x_iload hM d_WP_plays_76 0 rfl ?_
          refine x_iload_n hM d_WP_plays_78 rfl 2 rfl ?_
          refine x_icmp_ge (tgt := 95) hM d_WP_plays_79 (by decide) (fun q12 => ?_) (fun q12 => ?_)
          · replace S := S.1 q12
            refine x_lload_n hM d_WP_plays_95 rfl 3 rfl ?_
            refine x_aload_n hM d_WP_plays_96 rfl 1 rfl ?_
            refine y_getr hG hM V ck_WP 4 (Nat.le_of_ble_eq_true rfl) rfl rfl w_406 rfl d_WP_plays_97 (0, 0, 0) (5, 0, 0) rfl rfl rfl ?_
            refine y_getr hG hM V ck_Re 1 (Nat.le_of_ble_eq_true rfl) rfl rfl w_259 rfl d_WP_plays_100 (5, 0, 0) (32, 1, 0) rfl rfl rfl ?_
            refine x_iload hM d_WP_plays_103 4 rfl ?_
            have c5 := S
            refine y_laload hG hM V d_WP_plays_105 (32, 1, 0) rfl rfl c5 ?_
            refine x_ladd hM d_WP_plays_106 ?_
            refine x_lstore_n (lv2 := [(2, .long (v2 + (lR ρ (32, 1, 0) (Int32.toNatClampNeg v4)))), (5, .int (iR ρ (32, 0, 0) (Int32.toNatClampNeg v4))), (0, .ref (ad (0, 0, 0))), (1, .int v1), (4, .int v4)]) hM d_WP_plays_107 rfl (Nat.le_of_ble_eq_true rfl) rfl ?_
            refine x_iload hM d_WP_plays_108 1 rfl ?_
            refine x_istore_n (lv2 := [(1, .int (iR ρ (32, 0, 0) (Int32.toNatClampNeg v4))), (2, .long (v2 + (lR ρ (32, 1, 0) (Int32.toNatClampNeg v4)))), (5, .int (iR ρ (32, 0, 0) (Int32.toNatClampNeg v4))), (0, .ref (ad (0, 0, 0))), (4, .int v4)]) hM d_WP_plays_110 rfl (Nat.le_of_ble_eq_true rfl) rfl ?_
            refine x_sub [3, 0, 1, 4] rfl ?_
            exact JJ _ (Eq.symm (Eq.trans (if_neg q9) (Eq.trans (if_neg q10) (if_pos q11)))) _ (Eq.symm (Eq.trans (if_neg q9) (Eq.trans (if_neg q10) (Eq.trans (if_pos q11) (if_pos q12)))))
          · replace S := S.2 q12
            refine x_aload_n hM d_WP_plays_82 rfl 1 rfl ?_
            refine y_getr hG hM V ck_WP 4 (Nat.le_of_ble_eq_true rfl) rfl rfl w_406 rfl d_WP_plays_83 (0, 0, 0) (5, 0, 0) rfl rfl rfl ?_
            refine y_getr hG hM V ck_Re 1 (Nat.le_of_ble_eq_true rfl) rfl rfl w_259 rfl d_WP_plays_86 (5, 0, 0) (32, 1, 0) rfl rfl rfl ?_
            refine x_iload hM d_WP_plays_89 4 rfl ?_
            have c6 := S
            refine y_laload hG hM V d_WP_plays_91 (32, 1, 0) rfl rfl c6 ?_
            refine x_goto (tgt := 107) hM d_WP_plays_92 (by decide) ?_
            refine x_lstore_n (lv2 := [(2, .long (lR ρ (32, 1, 0) (Int32.toNatClampNeg v4))), (5, .int (iR ρ (32, 0, 0) (Int32.toNatClampNeg v4))), (0, .ref (ad (0, 0, 0))), (1, .int v1), (4, .int v4)]) hM d_WP_plays_107 rfl (Nat.le_of_ble_eq_true rfl) rfl ?_
            refine x_iload hM d_WP_plays_108 1 rfl ?_
            refine x_istore_n (lv2 := [(1, .int (iR ρ (32, 0, 0) (Int32.toNatClampNeg v4))), (2, .long (lR ρ (32, 1, 0) (Int32.toNatClampNeg v4))), (5, .int (iR ρ (32, 0, 0) (Int32.toNatClampNeg v4))), (0, .ref (ad (0, 0, 0))), (4, .int v4)]) hM d_WP_plays_110 rfl (Nat.le_of_ble_eq_true rfl) rfl ?_
            refine x_sub [3, 0, 1, 4] rfl ?_
            exact JJ _ (Eq.symm (Eq.trans (if_neg q9) (Eq.trans (if_neg q10) (if_pos q11)))) _ (Eq.symm (Eq.trans (if_neg q9) (Eq.trans (if_neg q10) (Eq.trans (if_pos q11) (if_neg q12)))))
        · refine x_goto (tgt := 111) hM d_WP_plays_73 (by decide) ?_
          refine x_sub [1, 2, 3, 4] rfl ?_
          exact JJ _ (Eq.symm (Eq.trans (if_neg q9) (Eq.trans (if_neg q10) (if_neg q11)))) _ (Eq.symm (Eq.trans (if_neg q9) (Eq.trans (if_neg q10) (if_neg q11))))
