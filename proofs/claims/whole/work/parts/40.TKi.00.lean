set_option maxRecDepth 100000 in
set_option maxHeartbeats 4000000 in
theorem T_Ki_split_0 {G : Gc} {M : Mc} {Q : State → Prop} {ad0 : Ro → Nat} {K : (Ro → Nat) → Option Value → Rs → Prop} (hG : gok G) (hM : mok G M r_Ki_split Q (KV G [34] ad0 K))  (ρ : Rs) (F : semV G r_Ki_makeRoom [34] (fun ad => [.ref (ad (7, 0, 0)), .int (iR ρ (1, 0, 0) 1)]) ρ (fun ad u2 ρ1 => u2 = none ∧ (∀ ρ5 : Rs, ρ5 = pI ρ1 (7, 0, 0) 0 0 → (∀ ρ6 : Rs, ρ6 = pI ρ5 (7, 0, 0) 11 0 → (semV G r_Ki_placeThose [] (fun ad => [.ref (ad (7, 0, 0)), .ref (ad (1, 0, 0)), .ref (ad (33, 0, 0)), .int 1, .int 0]) ρ6 (fun ad u8 ρ7 => ∃ x10 : Int32, u8 = some (.int x10) ∧ (semV G r_Ki_placeThose [] (fun ad => [.ref (ad (7, 0, 0)), .ref (ad (1, 0, 0)), .ref (ad (33, 0, 0)), .int 0, .int x10]) ρ7 (fun ad u12 ρ11 => ∃ x14 : Int32, u12 = some (.int x14) ∧ (Y G [34] ad0 M Q 39 (fun ad => [(0, .ref (ad (7, 0, 0))), (1, .ref (ad (1, 0, 0))), (4, .int 0)]) (fun ad => []) ρ11))))))))) : Y G [34] ad0 M Q 0 (fun ad => [(0, .ref (ad (7, 0, 0))), (1, .ref (ad (1, 0, 0))), (2, .ref (ad (33, 0, 0)))]) (fun ad => []) ρ := by
  intro ad h hSt V
  show X G M Q 0 [(0, .ref (ad (7, 0, 0))), (1, .ref (ad (1, 0, 0))), (2, .ref (ad (33, 0, 0)))] [] h
  refine x_aload_n hM d_Ki_split_0 rfl 0 rfl ?_
  refine x_aload_n hM d_Ki_split_1 rfl 1 rfl ?_
  refine y_geti hG hM V ck_Wo 1 (Nat.le_of_ble_eq_true rfl) rfl rfl w_126 rfl d_Ki_split_2 (1, 0, 0) rfl rfl ?_
  refine x_callV hG hM (r' := r_Ki_makeRoom) (ci := 9) [.int (iR ρ (1, 0, 0) 1)] rfl rfl (Nat.le_of_ble_eq_true rfl) yk_Ki_makeRoom ⟨Nat.le_of_ble_eq_true rfl, Nat.le_of_ble_eq_true rfl⟩ w_702 w_704 ws_Ki_makeRoom rfl rfl (Nat.le_of_ble_eq_true rfl) d_Ki_split_5 (by rw [vT V rfl]; rfl) (sem_mono (F _ _ V) ?_)
  intro u2 h F
  obtain ⟨ad4, ρ1, V, hs3, F⟩ := F
  obtain ⟨rfl, F⟩ := F
  have ea0 : ad4 (7, 0, 0) = ad (7, 0, 0) := hs3 _ (Or.inr rfl)
  have ea1 : ad4 (1, 0, 0) = ad (1, 0, 0) := hs3 _ (Or.inr rfl)
  have ea2 : ad4 (33, 0, 0) = ad (33, 0, 0) := hs3 _ (Or.inl rfl)
  rw [← ea0, ← ea1, ← ea2]
  replace hSt := St_tr hSt (St_mono (mv' := [34]) (by decide) hs3)
  refine x_aload_n hM d_Ki_split_8 rfl 0 rfl ?_
  refine x_iconst (v := 0) hM d_Ki_split_9 (by decide) ?_
  obtain ⟨ρ5, eρ5⟩ : ∃ z : Rs, z = pI ρ1 (7, 0, 0) 0 0 := ⟨_, rfl⟩
  replace F := F ρ5 eρ5
  refine y_puti hG hM V ck_Ki 0 (Nat.le_of_ble_eq_true rfl) rfl rfl w_321 rfl d_Ki_split_10 rfl (7, 0, 0) rfl rfl (fun h V => ?_)
  rw [← eρ5] at V
  clear eρ5
  refine x_aload_n hM d_Ki_split_13 rfl 0 rfl ?_
  refine x_iconst (v := 0) hM d_Ki_split_14 (by decide) ?_
  obtain ⟨ρ6, eρ6⟩ : ∃ z : Rs, z = pI ρ5 (7, 0, 0) 11 0 := ⟨_, rfl⟩
  replace F := F ρ6 eρ6
  refine y_puti hG hM V ck_Ki 11 (Nat.le_of_ble_eq_true rfl) rfl rfl w_336 rfl d_Ki_split_15 rfl (7, 0, 0) rfl rfl (fun h V => ?_)
  rw [← eρ6] at V
  clear eρ6
  refine x_aload_n hM d_Ki_split_18 rfl 0 rfl ?_
  refine x_aload_n hM d_Ki_split_19 rfl 1 rfl ?_
  refine x_aload_n hM d_Ki_split_20 rfl 2 rfl ?_
  refine x_iconst (v := 1) hM d_Ki_split_21 (by decide) ?_
  refine x_iconst (v := 0) hM d_Ki_split_22 (by decide) ?_
  refine x_callV hG hM (r' := r_Ki_placeThose) (ci := 9) [.ref (ad4 (1, 0, 0)), .ref (ad4 (33, 0, 0)), .int 1, .int 0] rfl rfl (Nat.le_of_ble_eq_true rfl) yk_Ki_placeThose ⟨Nat.le_of_ble_eq_true rfl, Nat.le_of_ble_eq_true rfl⟩ w_707 w_709 ws_Ki_placeThose rfl rfl (Nat.le_of_ble_eq_true rfl) d_Ki_split_23 (by rw [vT V rfl]; rfl) (sem_mono (F _ _ V) ?_)
  intro u8 h F
  obtain ⟨ad16, ρ7, V, hs9, F⟩ := F
  obtain ⟨x10, rfl, F⟩ := F
  have hs9 := (St_eq hs9).symm
  subst hs9
  refine x_istore_n (lv2 := [(3, .int x10), (0, .ref (ad4 (7, 0, 0))), (1, .ref (ad4 (1, 0, 0))), (2, .ref (ad4 (33, 0, 0)))]) hM d_Ki_split_26 rfl (Nat.le_of_ble_eq_true rfl) rfl ?_
  refine x_aload_n hM d_Ki_split_27 rfl 1 rfl ?_
  refine x_aload_n hM d_Ki_split_28 rfl 2 rfl ?_
  refine x_aload_n hM d_Ki_split_29 rfl 3 rfl ?_
  refine x_iconst (v := 0) hM d_Ki_split_30 (by decide) ?_
  refine x_iload_n hM d_Ki_split_31 rfl 0 rfl ?_
  refine x_callV hG hM (r' := r_Ki_placeThose) (ci := 9) [.ref (ad4 (1, 0, 0)), .ref (ad4 (33, 0, 0)), .int 0, .int x10] rfl rfl (Nat.le_of_ble_eq_true rfl) yk_Ki_placeThose ⟨Nat.le_of_ble_eq_true rfl, Nat.le_of_ble_eq_true rfl⟩ w_707 w_709 ws_Ki_placeThose rfl rfl (Nat.le_of_ble_eq_true rfl) d_Ki_split_32 (by rw [vT V rfl]; rfl) (sem_mono (F _ _ V) ?_)
  intro u12 h F
  obtain ⟨ad15, ρ11, V, hs13, F⟩ := F
  obtain ⟨x14, rfl, F⟩ := F
  have hs13 := (St_eq hs13).symm
  subst hs13
  refine x_pop hM d_Ki_split_35 rfl ?_
  refine x_iconst (v := 0) hM d_Ki_split_36 (by decide) ?_
  refine x_istore (lv2 := [(4, .int 0), (3, .int x10), (0, .ref (ad4 (7, 0, 0))), (1, .ref (ad4 (1, 0, 0))), (2, .ref (ad4 (33, 0, 0)))]) hM d_Ki_split_37 (Nat.le_of_ble_eq_true rfl) rfl ?_
  refine x_sub [2, 3, 0] rfl ?_
  exact F _ _ hSt V
set_option maxRecDepth 100000 in
set_option maxHeartbeats 4000000 in
theorem T_Ki_split_39 {G : Gc} {M : Mc} {Q : State → Prop} {ad0 : Ro → Nat} {K : (Ro → Nat) → Option Value → Rs → Prop} (hG : gok G) (hM : mok G M r_Ki_split Q (KV G [34] ad0 K)) (v4 : Int32) (ρ : Rs) (F : (8000000 ≤ v4 → (semV G r_Ki_findLeast [] (fun ad => [.ref (ad (7, 0, 0)), .int (iR ρ (1, 0, 0) 1)]) ρ (fun ad u2 ρ1 => u2 = none ∧ (∀ ad, K ad none ρ1)))) ∧ (¬ 8000000 ≤ v4 → (((iR ρ (7, 0, 0) 11) ≤ 0 → (semV G r_Ki_findLeast [] (fun ad => [.ref (ad (7, 0, 0)), .int (iR ρ (1, 0, 0) 1)]) ρ (fun ad u6 ρ5 => u6 = none ∧ (∀ ad, K ad none ρ5)))) ∧ (¬ (iR ρ (7, 0, 0) 11) ≤ 0 → (∀ ρ9 : Rs, ρ9 = pI ρ (7, 0, 0) 11 ((iR ρ (7, 0, 0) 11) - 1) → (vp_in (iR ρ9 (7, 0, 0) 11) (nR ρ9 (34, 10, 0)) ∧ (semV G r_Ki_settle [] (fun ad => [.ref (ad (7, 0, 0)), .ref (ad (1, 0, 0)), .int (iR ρ9 (34, 10, 0) (Int32.toNatClampNeg (iR ρ9 (7, 0, 0) 11)))]) ρ9 (fun ad u12 ρ11 => u12 = none ∧ (Y G [34] ad0 M Q 39 (fun ad => [(0, .ref (ad (7, 0, 0))), (1, .ref (ad (1, 0, 0))), (4, .int (v4 + 1))]) (fun ad => []) ρ11))))))))) : Y G [34] ad0 M Q 39 (fun ad => [(0, .ref (ad (7, 0, 0))), (1, .ref (ad (1, 0, 0))), (4, .int v4)]) (fun ad => []) ρ := by
  intro ad h hSt V
  show X G M Q 39 [(0, .ref (ad (7, 0, 0))), (1, .ref (ad (1, 0, 0))), (4, .int v4)] [] h
  refine x_iload hM d_Ki_split_39 2 rfl ?_
  refine x_ldc hG hM rfl w_715 d_Ki_split_41 ?_
  refine x_icmp_ge (tgt := 83) hM d_Ki_split_43 (by decide) (fun q16 => ?_) (fun q16 => ?_)
  · replace F := F.1 q16
    refine x_aload_n hM d_Ki_split_83 rfl 0 rfl ?_
    refine x_aload_n hM d_Ki_split_84 rfl 1 rfl ?_
    refine y_geti hG hM V ck_Wo 1 (Nat.le_of_ble_eq_true rfl) rfl rfl w_126 rfl d_Ki_split_85 (1, 0, 0) rfl rfl ?_
    refine x_callV hG hM (r' := r_Ki_findLeast) (ci := 9) [.int (iR ρ (1, 0, 0) 1)] rfl rfl (Nat.le_of_ble_eq_true rfl) yk_Ki_findLeast ⟨Nat.le_of_ble_eq_true rfl, Nat.le_of_ble_eq_true rfl⟩ w_764 w_766 ws_Ki_findLeast rfl rfl (Nat.le_of_ble_eq_true rfl) d_Ki_split_88 (by rw [vT V rfl]; rfl) (sem_mono (F _ _ V) ?_)
    intro u2 h F
    obtain ⟨ad4, ρ1, V, hs3, F⟩ := F
    obtain ⟨rfl, F⟩ := F
    have hs3 := (St_eq hs3).symm
    subst hs3
    exact x_return hM d_Ki_split_91 rfl (y_end V hSt (F _))
  · replace F := F.2 q16
    refine x_aload_n hM d_Ki_split_46 rfl 0 rfl ?_
    refine y_geti hG hM V ck_Ki 11 (Nat.le_of_ble_eq_true rfl) rfl rfl w_336 rfl d_Ki_split_47 (7, 0, 0) rfl rfl ?_
    refine x_if_le (tgt := 83) hM d_Ki_split_50 (by decide) (fun q15 => ?_) (fun q15 => ?_)
    · replace F := F.1 q15
      refine x_aload_n hM d_Ki_split_83 rfl 0 rfl ?_
      refine x_aload_n hM d_Ki_split_84 rfl 1 rfl ?_
      refine y_geti hG hM V ck_Wo 1 (Nat.le_of_ble_eq_true rfl) rfl rfl w_126 rfl d_Ki_split_85 (1, 0, 0) rfl rfl ?_
      refine x_callV hG hM (r' := r_Ki_findLeast) (ci := 9) [.int (iR ρ (1, 0, 0) 1)] rfl rfl (Nat.le_of_ble_eq_true rfl) yk_Ki_findLeast ⟨Nat.le_of_ble_eq_true rfl, Nat.le_of_ble_eq_true rfl⟩ w_764 w_766 ws_Ki_findLeast rfl rfl (Nat.le_of_ble_eq_true rfl) d_Ki_split_88 (by rw [vT V rfl]; rfl) (sem_mono (F _ _ V) ?_)
      intro u6 h F
      obtain ⟨ad8, ρ5, V, hs7, F⟩ := F
      obtain ⟨rfl, F⟩ := F
      have hs7 := (St_eq hs7).symm
      subst hs7
      exact x_return hM d_Ki_split_91 rfl (y_end V hSt (F _))
    · replace F := F.2 q15
      refine x_aload_n hM d_Ki_split_53 rfl 0 rfl ?_
      refine x_dup hM d_Ki_split_54 rfl ?_
      refine y_geti hG hM V ck_Ki 11 (Nat.le_of_ble_eq_true rfl) rfl rfl w_336 rfl d_Ki_split_55 (7, 0, 0) rfl rfl ?_
      refine x_iconst (v := 1) hM d_Ki_split_58 (by decide) ?_
      refine x_isub hM d_Ki_split_59 ?_
      obtain ⟨ρ9, eρ9⟩ : ∃ z : Rs, z = pI ρ (7, 0, 0) 11 ((iR ρ (7, 0, 0) 11) - 1) := ⟨_, rfl⟩
      replace F := F ρ9 eρ9
      refine y_puti hG hM V ck_Ki 11 (Nat.le_of_ble_eq_true rfl) rfl rfl w_336 rfl d_Ki_split_60 rfl (7, 0, 0) rfl rfl (fun h V => ?_)
      rw [← eρ9] at V
      clear eρ9
      refine x_aload_n hM d_Ki_split_63 rfl 0 rfl ?_
      refine x_aload_n hM d_Ki_split_64 rfl 1 rfl ?_
      refine x_aload_n hM d_Ki_split_65 rfl 0 rfl ?_
      refine y_getr hG hM V ck_Ki 10 (Nat.le_of_ble_eq_true rfl) rfl rfl w_335 rfl d_Ki_split_66 (7, 0, 0) (34, 10, 0) rfl rfl rfl ?_
      refine x_aload_n hM d_Ki_split_69 rfl 0 rfl ?_
      refine y_geti hG hM V ck_Ki 11 (Nat.le_of_ble_eq_true rfl) rfl rfl w_336 rfl d_Ki_split_70 (7, 0, 0) rfl rfl ?_
      obtain ⟨c10, F⟩ := F
      refine y_iaload hG hM V d_Ki_split_73 (34, 10, 0) rfl rfl c10 ?_
      refine x_callV hG hM (r' := r_Ki_settle) (ci := 9) [.ref (ad (1, 0, 0)), .int (iR ρ9 (34, 10, 0) (Int32.toNatClampNeg (iR ρ9 (7, 0, 0) 11)))] rfl rfl (Nat.le_of_ble_eq_true rfl) yk_Ki_settle ⟨Nat.le_of_ble_eq_true rfl, Nat.le_of_ble_eq_true rfl⟩ w_716 w_718 ws_Ki_settle rfl rfl (Nat.le_of_ble_eq_true rfl) d_Ki_split_74 (by rw [vT V rfl]; rfl) (sem_mono (F _ _ V) ?_)
      intro u12 h F
      obtain ⟨ad14, ρ11, V, hs13, F⟩ := F
      obtain ⟨rfl, F⟩ := F
      have hs13 := (St_eq hs13).symm
      subst hs13
      refine x_iinc (v := (v4 + 1)) (lv2 := [(4, .int (v4 + 1)), (0, .ref (ad (7, 0, 0))), (1, .ref (ad (1, 0, 0)))]) hM d_Ki_split_77 (j := 2) rfl rfl (Nat.le_of_ble_eq_true rfl) rfl ?_
      refine x_goto (tgt := 39) hM d_Ki_split_80 (by decide) ?_
      refine x_sub [1, 2, 0] rfl ?_
      exact F _ _ hSt V
set_option maxRecDepth 100000 in
set_option maxHeartbeats 4000000 in
theorem T_Ki_makeRoom_0 {G : Gc} {M : Mc} {Q : State → Prop} {ad0 : Ro → Nat} {K : (Ro → Nat) → Option Value → Rs → Prop} (hG : gok G) (hM : mok G M r_Ki_makeRoom Q (KV G [34] ad0 K)) (v1 : Int32) (ρ : Rs) (F : ((nI (nR ρ (34, 2, 0))) < v1 → (semV G r_WP_roomFor [] (fun ad => [.int v1]) ρ (fun ad u2 ρ1 => ∃ x4 : Int32, u2 = some (.int x4) ∧ (∃ m6 : Nat, x4 = nI m6 ∧ m6 ≤ 8192 ∧ rmg m6 + 1 ≤ rmg (nR ρ1 (34, 2, 0)) ∧ (∀ ρ5 : Rs, ρ5 = uN ρ1 (34, 2, 0) m6 → (∃ m13 : Nat, x4 = nI m13 ∧ m13 ≤ 8192 ∧ rmg m13 + 1 ≤ rmg (nR ρ5 (34, 3, 0)) ∧ (∀ ρ12 : Rs, ρ12 = uN ρ5 (34, 3, 0) m13 → (∃ m20 : Nat, x4 = nI m20 ∧ m20 ≤ 8192 ∧ rmg m20 + 1 ≤ rmg (nR ρ12 (34, 4, 0)) ∧ (∀ ρ19 : Rs, ρ19 = uN ρ12 (34, 4, 0) m20 → (∃ m27 : Nat, x4 = nI m27 ∧ m27 ≤ 8192 ∧ rmg m27 + 1 ≤ rmg (nR ρ19 (34, 5, 0)) ∧ (∀ ρ26 : Rs, ρ26 = uN ρ19 (34, 5, 0) m27 → (∃ m34 : Nat, x4 = nI m34 ∧ m34 ≤ 8192 ∧ rmg m34 + 1 ≤ rmg (nR ρ26 (34, 6, 0)) ∧ (∀ ρ33 : Rs, ρ33 = uN ρ26 (34, 6, 0) m34 → (∃ m41 : Nat, x4 = nI m41 ∧ m41 ≤ 8192 ∧ rmg m41 + 1 ≤ rmg (nR ρ33 (34, 7, 0)) ∧ (∀ ρ40 : Rs, ρ40 = uN ρ33 (34, 7, 0) m41 → (∃ m48 : Nat, x4 = nI m48 ∧ m48 ≤ 8192 ∧ rmg m48 + 1 ≤ rmg (nR ρ40 (34, 8, 0)) ∧ (∀ ρ47 : Rs, ρ47 = uN ρ40 (34, 8, 0) m48 → (∃ m55 : Nat, x4 = nI m55 ∧ m55 ≤ 8192 ∧ rmg m55 + 1 ≤ rmg (nR ρ47 (34, 9, 0)) ∧ (∀ ρ54 : Rs, ρ54 = uN ρ47 (34, 9, 0) m55 → (∃ m62 : Nat, x4 = nI m62 ∧ m62 ≤ 8192 ∧ rmg m62 + 1 ≤ rmg (nR ρ54 (34, 10, 0)) ∧ (∀ ρ61 : Rs, ρ61 = uN ρ54 (34, 10, 0) m62 → (∃ m69 : Nat, x4 = nI m69 ∧ m69 ≤ 8192 ∧ rmg m69 + 1 ≤ rmg (nR ρ61 (34, 12, 0)) ∧ (∀ ρ68 : Rs, ρ68 = uN ρ61 (34, 12, 0) m69 → (∃ m76 : Nat, x4 = nI m76 ∧ m76 ≤ 8192 ∧ rmg m76 + 1 ≤ rmg (nR ρ68 (34, 13, 0)) ∧ (∀ ρ75 : Rs, ρ75 = uN ρ68 (34, 13, 0) m76 → (∃ m83 : Nat, x4 = nI m83 ∧ m83 ≤ 8192 ∧ rmg m83 + 1 ≤ rmg (nR ρ75 (34, 14, 0)) ∧ (∀ ρ82 : Rs, ρ82 = uN ρ75 (34, 14, 0) m83 → (∃ m90 : Nat, x4 = nI m90 ∧ m90 ≤ 8192 ∧ rmg m90 + 1 ≤ rmg (nR ρ82 (34, 15, 0)) ∧ (∀ ρ89 : Rs, ρ89 = uN ρ82 (34, 15, 0) m90 → (∃ m97 : Nat, (2 * x4) = nI m97 ∧ m97 ≤ 8192 ∧ rmg m97 + 1 ≤ rmg (nR ρ89 (34, 16, 0)) ∧ (∀ ρ96 : Rs, ρ96 = uN ρ89 (34, 16, 0) m97 → (∃ m104 : Nat, (2 * x4) = nI m104 ∧ m104 ≤ 8192 ∧ rmg m104 + 1 ≤ rmg (nR ρ96 (34, 17, 0)) ∧ (∀ ρ103 : Rs, ρ103 = uN ρ96 (34, 17, 0) m104 → (∀ ad, K ad none ρ103)))))))))))))))))))))))))))))))))) ∧ (¬ (nI (nR ρ (34, 2, 0))) < v1 → (∀ ad, K ad none ρ))) : Y G [34] ad0 M Q 0 (fun ad => [(0, .ref (ad (7, 0, 0))), (1, .int v1)]) (fun ad => []) ρ := by
  intro ad h hSt V
  show X G M Q 0 [(0, .ref (ad (7, 0, 0))), (1, .int v1)] [] h
  refine x_aload_n hM d_Ki_makeRoom_0 rfl 0 rfl ?_
  refine y_getr hG hM V ck_Ki 2 (Nat.le_of_ble_eq_true rfl) rfl rfl w_325 rfl d_Ki_makeRoom_1 (7, 0, 0) (34, 2, 0) rfl rfl rfl ?_
  refine y_alen hG hM V 50 rfl (Nat.le_of_ble_eq_true rfl) d_Ki_makeRoom_4 (34, 2, 0) rfl rfl ?_
  refine x_iload_n hM d_Ki_makeRoom_5 rfl 1 rfl ?_
  refine x_icmp_lt (tgt := 10) hM d_Ki_makeRoom_6 (by decide) (fun q111 => ?_) (fun q111 => ?_)
  · replace F := F.1 q111
    refine x_iload_n hM d_Ki_makeRoom_10 rfl 1 rfl ?_
    refine x_callSN hG hM (r' := r_WP_roomFor) [.int v1] rfl yk_WP_roomFor ⟨Nat.le_of_ble_eq_true rfl, Nat.le_of_ble_eq_true rfl⟩ w_706 w_589 rfl rfl (Nat.le_of_ble_eq_true rfl) d_Ki_makeRoom_11 (sem_mono (F _ _ V) ?_)
    intro u2 h F
    obtain ⟨ad110, ρ1, V, hs3, F⟩ := F
    obtain ⟨x4, rfl, F⟩ := F
    have hs3 := (St_eq hs3).symm
    subst hs3
    refine x_istore_n (lv2 := [(2, .int x4), (0, .ref (ad (7, 0, 0))), (1, .int v1)]) hM d_Ki_makeRoom_14 rfl (Nat.le_of_ble_eq_true rfl) rfl ?_
    refine x_aload_n hM d_Ki_makeRoom_15 rfl 1 rfl ?_
    refine x_iload_n hM d_Ki_makeRoom_16 rfl 0 rfl ?_
    obtain ⟨m6, c7, c8, c9, F⟩ := F
    obtain ⟨ρ5, eρ5⟩ : ∃ z : Rs, z = uN ρ1 (34, 2, 0) m6 := ⟨_, rfl⟩
    replace F := F ρ5 eρ5
    refine y_newI hG hM V rfl w_63 d_Ki_makeRoom_17 d_Ki_makeRoom_19 ck_Ki (k := 2) (Nat.le_of_ble_eq_true rfl) (Or.inr ⟨_, rfl⟩) w_325 rfl rfl (7, 0, 0) (34, 2, 0) rfl rfl rfl (by decide) rfl rfl rfl c7 c8 c9 (fun ad11 h hs10 V => ?_)
    rw [← eρ5] at V
    clear eρ5
    have ea0 : ad11 (7, 0, 0) = ad (7, 0, 0) := hs10 _ (Or.inr rfl)
    rw [← ea0]
    replace hSt := St_tr hSt (St_mono (mv' := [34]) (by decide) hs10)
    refine x_aload_n hM d_Ki_makeRoom_22 rfl 1 rfl ?_
    refine x_iload_n hM d_Ki_makeRoom_23 rfl 0 rfl ?_
    obtain ⟨m13, c14, c15, c16, F⟩ := F
    obtain ⟨ρ12, eρ12⟩ : ∃ z : Rs, z = uN ρ5 (34, 3, 0) m13 := ⟨_, rfl⟩
    replace F := F ρ12 eρ12
    refine y_newI hG hM V rfl w_63 d_Ki_makeRoom_24 d_Ki_makeRoom_26 ck_Ki (k := 3) (Nat.le_of_ble_eq_true rfl) (Or.inr ⟨_, rfl⟩) w_327 rfl rfl (7, 0, 0) (34, 3, 0) rfl rfl rfl (by decide) rfl rfl rfl c14 c15 c16 (fun ad18 h hs17 V => ?_)
    rw [← eρ12] at V
    clear eρ12
    have ea0 : ad18 (7, 0, 0) = ad11 (7, 0, 0) := hs17 _ (Or.inr rfl)
    rw [← ea0]
    replace hSt := St_tr hSt (St_mono (mv' := [34]) (by decide) hs17)
    refine x_aload_n hM d_Ki_makeRoom_29 rfl 1 rfl ?_
    refine x_iload_n hM d_Ki_makeRoom_30 rfl 0 rfl ?_
    obtain ⟨m20, c21, c22, c23, F⟩ := F
    obtain ⟨ρ19, eρ19⟩ : ∃ z : Rs, z = uN ρ12 (34, 4, 0) m20 := ⟨_, rfl⟩
    replace F := F ρ19 eρ19
    refine y_newI hG hM V rfl w_63 d_Ki_makeRoom_31 d_Ki_makeRoom_33 ck_Ki (k := 4) (Nat.le_of_ble_eq_true rfl) (Or.inr ⟨_, rfl⟩) w_329 rfl rfl (7, 0, 0) (34, 4, 0) rfl rfl rfl (by decide) rfl rfl rfl c21 c22 c23 (fun ad25 h hs24 V => ?_)
    rw [← eρ19] at V
    clear eρ19
    have ea0 : ad25 (7, 0, 0) = ad18 (7, 0, 0) := hs24 _ (Or.inr rfl)
    rw [← ea0]
    replace hSt := St_tr hSt (St_mono (mv' := [34]) (by decide) hs24)
    refine x_aload_n hM d_Ki_makeRoom_36 rfl 1 rfl ?_
    refine x_iload_n hM d_Ki_makeRoom_37 rfl 0 rfl ?_
    obtain ⟨m27, c28, c29, c30, F⟩ := F
    obtain ⟨ρ26, eρ26⟩ : ∃ z : Rs, z = uN ρ19 (34, 5, 0) m27 := ⟨_, rfl⟩
    replace F := F ρ26 eρ26
    refine y_newI hG hM V rfl w_63 d_Ki_makeRoom_38 d_Ki_makeRoom_40 ck_Ki (k := 5) (Nat.le_of_ble_eq_true rfl) (Or.inr ⟨_, rfl⟩) w_330 rfl rfl (7, 0, 0) (34, 5, 0) rfl rfl rfl (by decide) rfl rfl rfl c28 c29 c30 (fun ad32 h hs31 V => ?_)
    rw [← eρ26] at V
    clear eρ26
    have ea0 : ad32 (7, 0, 0) = ad25 (7, 0, 0) := hs31 _ (Or.inr rfl)
    rw [← ea0]
    replace hSt := St_tr hSt (St_mono (mv' := [34]) (by decide) hs31)
    refine x_aload_n hM d_Ki_makeRoom_43 rfl 1 rfl ?_
    refine x_iload_n hM d_Ki_makeRoom_44 rfl 0 rfl ?_
    obtain ⟨m34, c35, c36, c37, F⟩ := F
    obtain ⟨ρ33, eρ33⟩ : ∃ z : Rs, z = uN ρ26 (34, 6, 0) m34 := ⟨_, rfl⟩
    replace F := F ρ33 eρ33
    refine y_newI hG hM V rfl w_63 d_Ki_makeRoom_45 d_Ki_makeRoom_47 ck_Ki (k := 6) (Nat.le_of_ble_eq_true rfl) (Or.inr ⟨_, rfl⟩) w_331 rfl rfl (7, 0, 0) (34, 6, 0) rfl rfl rfl (by decide) rfl rfl rfl c35 c36 c37 (fun ad39 h hs38 V => ?_)
    rw [← eρ33] at V
    clear eρ33
    have ea0 : ad39 (7, 0, 0) = ad32 (7, 0, 0) := hs38 _ (Or.inr rfl)
    rw [← ea0]
    replace hSt := St_tr hSt (St_mono (mv' := [34]) (by decide) hs38)
    refine x_aload_n hM d_Ki_makeRoom_50 rfl 1 rfl ?_
    refine x_iload_n hM d_Ki_makeRoom_51 rfl 0 rfl ?_
    obtain ⟨m41, c42, c43, c44, F⟩ := F
    obtain ⟨ρ40, eρ40⟩ : ∃ z : Rs, z = uN ρ33 (34, 7, 0) m41 := ⟨_, rfl⟩
    replace F := F ρ40 eρ40
    refine y_newI hG hM V rfl w_63 d_Ki_makeRoom_52 d_Ki_makeRoom_54 ck_Ki (k := 7) (Nat.le_of_ble_eq_true rfl) (Or.inr ⟨_, rfl⟩) w_332 rfl rfl (7, 0, 0) (34, 7, 0) rfl rfl rfl (by decide) rfl rfl rfl c42 c43 c44 (fun ad46 h hs45 V => ?_)
    rw [← eρ40] at V
    clear eρ40
    have ea0 : ad46 (7, 0, 0) = ad39 (7, 0, 0) := hs45 _ (Or.inr rfl)
    rw [← ea0]
    replace hSt := St_tr hSt (St_mono (mv' := [34]) (by decide) hs45)
    refine x_aload_n hM d_Ki_makeRoom_57 rfl 1 rfl ?_
    refine x_iload_n hM d_Ki_makeRoom_58 rfl 0 rfl ?_
    obtain ⟨m48, c49, c50, c51, F⟩ := F
    obtain ⟨ρ47, eρ47⟩ : ∃ z : Rs, z = uN ρ40 (34, 8, 0) m48 := ⟨_, rfl⟩
    replace F := F ρ47 eρ47
    refine y_newI hG hM V rfl w_63 d_Ki_makeRoom_59 d_Ki_makeRoom_61 ck_Ki (k := 8) (Nat.le_of_ble_eq_true rfl) (Or.inr ⟨_, rfl⟩) w_333 rfl rfl (7, 0, 0) (34, 8, 0) rfl rfl rfl (by decide) rfl rfl rfl c49 c50 c51 (fun ad53 h hs52 V => ?_)
    rw [← eρ47] at V
    clear eρ47
    have ea0 : ad53 (7, 0, 0) = ad46 (7, 0, 0) := hs52 _ (Or.inr rfl)
    rw [← ea0]
    replace hSt := St_tr hSt (St_mono (mv' := [34]) (by decide) hs52)
    refine x_aload_n hM d_Ki_makeRoom_64 rfl 1 rfl ?_
    refine x_iload_n hM d_Ki_makeRoom_65 rfl 0 rfl ?_
    obtain ⟨m55, c56, c57, c58, F⟩ := F
    obtain ⟨ρ54, eρ54⟩ : ∃ z : Rs, z = uN ρ47 (34, 9, 0) m55 := ⟨_, rfl⟩
    replace F := F ρ54 eρ54
    refine y_newI hG hM V rfl w_63 d_Ki_makeRoom_66 d_Ki_makeRoom_68 ck_Ki (k := 9) (Nat.le_of_ble_eq_true rfl) (Or.inr ⟨_, rfl⟩) w_334 rfl rfl (7, 0, 0) (34, 9, 0) rfl rfl rfl (by decide) rfl rfl rfl c56 c57 c58 (fun ad60 h hs59 V => ?_)
    rw [← eρ54] at V
    clear eρ54
    have ea0 : ad60 (7, 0, 0) = ad53 (7, 0, 0) := hs59 _ (Or.inr rfl)
    rw [← ea0]
    replace hSt := St_tr hSt (St_mono (mv' := [34]) (by decide) hs59)
    refine x_aload_n hM d_Ki_makeRoom_71 rfl 1 rfl ?_
    refine x_iload_n hM d_Ki_makeRoom_72 rfl 0 rfl ?_
    obtain ⟨m62, c63, c64, c65, F⟩ := F
    obtain ⟨ρ61, eρ61⟩ : ∃ z : Rs, z = uN ρ54 (34, 10, 0) m62 := ⟨_, rfl⟩
    replace F := F ρ61 eρ61
    refine y_newI hG hM V rfl w_63 d_Ki_makeRoom_73 d_Ki_makeRoom_75 ck_Ki (k := 10) (Nat.le_of_ble_eq_true rfl) (Or.inr ⟨_, rfl⟩) w_335 rfl rfl (7, 0, 0) (34, 10, 0) rfl rfl rfl (by decide) rfl rfl rfl c63 c64 c65 (fun ad67 h hs66 V => ?_)
    rw [← eρ61] at V
    clear eρ61
    have ea0 : ad67 (7, 0, 0) = ad60 (7, 0, 0) := hs66 _ (Or.inr rfl)
    rw [← ea0]
    replace hSt := St_tr hSt (St_mono (mv' := [34]) (by decide) hs66)
    refine x_aload_n hM d_Ki_makeRoom_78 rfl 1 rfl ?_
    refine x_iload_n hM d_Ki_makeRoom_79 rfl 0 rfl ?_
    obtain ⟨m69, c70, c71, c72, F⟩ := F
    obtain ⟨ρ68, eρ68⟩ : ∃ z : Rs, z = uN ρ61 (34, 12, 0) m69 := ⟨_, rfl⟩
    replace F := F ρ68 eρ68
    refine y_newI hG hM V rfl w_63 d_Ki_makeRoom_80 d_Ki_makeRoom_82 ck_Ki (k := 12) (Nat.le_of_ble_eq_true rfl) (Or.inr ⟨_, rfl⟩) w_337 rfl rfl (7, 0, 0) (34, 12, 0) rfl rfl rfl (by decide) rfl rfl rfl c70 c71 c72 (fun ad74 h hs73 V => ?_)
    rw [← eρ68] at V
    clear eρ68
    have ea0 : ad74 (7, 0, 0) = ad67 (7, 0, 0) := hs73 _ (Or.inr rfl)
    rw [← ea0]
    replace hSt := St_tr hSt (St_mono (mv' := [34]) (by decide) hs73)
    refine x_aload_n hM d_Ki_makeRoom_85 rfl 1 rfl ?_
    refine x_iload_n hM d_Ki_makeRoom_86 rfl 0 rfl ?_
    obtain ⟨m76, c77, c78, c79, F⟩ := F
    obtain ⟨ρ75, eρ75⟩ : ∃ z : Rs, z = uN ρ68 (34, 13, 0) m76 := ⟨_, rfl⟩
    replace F := F ρ75 eρ75
    refine y_newI hG hM V rfl w_63 d_Ki_makeRoom_87 d_Ki_makeRoom_89 ck_Ki (k := 13) (Nat.le_of_ble_eq_true rfl) (Or.inr ⟨_, rfl⟩) w_338 rfl rfl (7, 0, 0) (34, 13, 0) rfl rfl rfl (by decide) rfl rfl rfl c77 c78 c79 (fun ad81 h hs80 V => ?_)
    rw [← eρ75] at V
    clear eρ75
    have ea0 : ad81 (7, 0, 0) = ad74 (7, 0, 0) := hs80 _ (Or.inr rfl)
    rw [← ea0]
    replace hSt := St_tr hSt (St_mono (mv' := [34]) (by decide) hs80)
    refine x_aload_n hM d_Ki_makeRoom_92 rfl 1 rfl ?_
    refine x_iload_n hM d_Ki_makeRoom_93 rfl 0 rfl ?_
    obtain ⟨m83, c84, c85, c86, F⟩ := F
    obtain ⟨ρ82, eρ82⟩ : ∃ z : Rs, z = uN ρ75 (34, 14, 0) m83 := ⟨_, rfl⟩
    replace F := F ρ82 eρ82
    refine y_newI hG hM V rfl w_63 d_Ki_makeRoom_94 d_Ki_makeRoom_96 ck_Ki (k := 14) (Nat.le_of_ble_eq_true rfl) (Or.inr ⟨_, rfl⟩) w_339 rfl rfl (7, 0, 0) (34, 14, 0) rfl rfl rfl (by decide) rfl rfl rfl c84 c85 c86 (fun ad88 h hs87 V => ?_)
    rw [← eρ82] at V
    clear eρ82
    have ea0 : ad88 (7, 0, 0) = ad81 (7, 0, 0) := hs87 _ (Or.inr rfl)
    rw [← ea0]
    replace hSt := St_tr hSt (St_mono (mv' := [34]) (by decide) hs87)
    refine x_aload_n hM d_Ki_makeRoom_99 rfl 1 rfl ?_
    refine x_iload_n hM d_Ki_makeRoom_100 rfl 0 rfl ?_
    obtain ⟨m90, c91, c92, c93, F⟩ := F
    obtain ⟨ρ89, eρ89⟩ : ∃ z : Rs, z = uN ρ82 (34, 15, 0) m90 := ⟨_, rfl⟩
    replace F := F ρ89 eρ89
    refine y_newI hG hM V rfl w_63 d_Ki_makeRoom_101 d_Ki_makeRoom_103 ck_Ki (k := 15) (Nat.le_of_ble_eq_true rfl) (Or.inr ⟨_, rfl⟩) w_340 rfl rfl (7, 0, 0) (34, 15, 0) rfl rfl rfl (by decide) rfl rfl rfl c91 c92 c93 (fun ad95 h hs94 V => ?_)
    rw [← eρ89] at V
    clear eρ89
    have ea0 : ad95 (7, 0, 0) = ad88 (7, 0, 0) := hs94 _ (Or.inr rfl)
    rw [← ea0]
    replace hSt := St_tr hSt (St_mono (mv' := [34]) (by decide) hs94)
    refine x_aload_n hM d_Ki_makeRoom_106 rfl 1 rfl ?_
    refine x_iconst (v := 2) hM d_Ki_makeRoom_107 (by decide) ?_
    refine x_iload_n hM d_Ki_makeRoom_108 rfl 0 rfl ?_
    refine x_imul hM d_Ki_makeRoom_109 ?_
    obtain ⟨m97, c98, c99, c100, F⟩ := F
    obtain ⟨ρ96, eρ96⟩ : ∃ z : Rs, z = uN ρ89 (34, 16, 0) m97 := ⟨_, rfl⟩
    replace F := F ρ96 eρ96
    refine y_newI hG hM V rfl w_63 d_Ki_makeRoom_110 d_Ki_makeRoom_112 ck_Ki (k := 16) (Nat.le_of_ble_eq_true rfl) (Or.inr ⟨_, rfl⟩) w_341 rfl rfl (7, 0, 0) (34, 16, 0) rfl rfl rfl (by decide) rfl rfl rfl c98 c99 c100 (fun ad102 h hs101 V => ?_)
    rw [← eρ96] at V
    clear eρ96
    have ea0 : ad102 (7, 0, 0) = ad95 (7, 0, 0) := hs101 _ (Or.inr rfl)
    rw [← ea0]
    replace hSt := St_tr hSt (St_mono (mv' := [34]) (by decide) hs101)
    refine x_aload_n hM d_Ki_makeRoom_115 rfl 1 rfl ?_
    refine x_iconst (v := 2) hM d_Ki_makeRoom_116 (by decide) ?_
    refine x_iload_n hM d_Ki_makeRoom_117 rfl 0 rfl ?_
    refine x_imul hM d_Ki_makeRoom_118 ?_
    obtain ⟨m104, c105, c106, c107, F⟩ := F
    obtain ⟨ρ103, eρ103⟩ : ∃ z : Rs, z = uN ρ96 (34, 17, 0) m104 := ⟨_, rfl⟩
    replace F := F ρ103 eρ103
    refine y_newL hG hM V rfl w_276 d_Ki_makeRoom_119 d_Ki_makeRoom_121 ck_Ki (k := 17) (Nat.le_of_ble_eq_true rfl) (Or.inr ⟨_, rfl⟩) w_342 rfl rfl (7, 0, 0) (34, 17, 0) rfl rfl rfl (by decide) rfl rfl rfl c105 c106 c107 (fun ad109 h hs108 V => ?_)
    rw [← eρ103] at V
    clear eρ103
    have ea0 : ad109 (7, 0, 0) = ad102 (7, 0, 0) := hs108 _ (Or.inr rfl)
    rw [← ea0]
    replace hSt := St_tr hSt (St_mono (mv' := [34]) (by decide) hs108)
    exact x_return hM d_Ki_makeRoom_124 rfl (y_end V hSt (F _))
  · replace F := F.2 q111
    exact x_return hM d_Ki_makeRoom_9 rfl (y_end V hSt (F _))
set_option maxRecDepth 100000 in
set_option maxHeartbeats 4000000 in
theorem T_Ki_placeThose_0 {G : Gc} {M : Mc} {Q : State → Prop} {ad0 : Ro → Nat} {K : (Ro → Nat) → Option Value → Rs → Prop} (hG : gok G) (hM : mok G M r_Ki_placeThose Q (KV G [] ad0 K)) (v3 : Int32) (v4 : Int32) (ρ : Rs) (F : Y G [] ad0 M Q 7 (fun ad => [(0, .ref (ad (7, 0, 0))), (1, .ref (ad (1, 0, 0))), (2, .ref (ad (33, 0, 0))), (3, .int v3), (4, .int v4), (5, .int v4), (6, .int 0)]) (fun ad => []) ρ) : Y G [] ad0 M Q 0 (fun ad => [(0, .ref (ad (7, 0, 0))), (1, .ref (ad (1, 0, 0))), (2, .ref (ad (33, 0, 0))), (3, .int v3), (4, .int v4)]) (fun ad => []) ρ := by
  intro ad h hSt V
  show X G M Q 0 [(0, .ref (ad (7, 0, 0))), (1, .ref (ad (1, 0, 0))), (2, .ref (ad (33, 0, 0))), (3, .int v3), (4, .int v4)] [] h
  refine x_iload hM d_Ki_placeThose_0 4 rfl ?_
  refine x_istore (lv2 := [(5, .int v4), (0, .ref (ad (7, 0, 0))), (1, .ref (ad (1, 0, 0))), (2, .ref (ad (33, 0, 0))), (3, .int v3), (4, .int v4)]) hM d_Ki_placeThose_2 (Nat.le_of_ble_eq_true rfl) rfl ?_
  refine x_iconst (v := 0) hM d_Ki_placeThose_4 (by decide) ?_
  refine x_istore (lv2 := [(6, .int 0), (5, .int v4), (0, .ref (ad (7, 0, 0))), (1, .ref (ad (1, 0, 0))), (2, .ref (ad (33, 0, 0))), (3, .int v3), (4, .int v4)]) hM d_Ki_placeThose_5 (Nat.le_of_ble_eq_true rfl) rfl ?_
  refine x_sub [2, 3, 4, 5, 6, 1, 0] rfl ?_
  exact F _ _ hSt V
set_option maxRecDepth 100000 in
set_option maxHeartbeats 4000000 in
theorem T_Ki_placeThose_7 {G : Gc} {M : Mc} {Q : State → Prop} {ad0 : Ro → Nat} {K : (Ro → Nat) → Option Value → Rs → Prop} (hG : gok G) (hM : mok G M r_Ki_placeThose Q (KV G [] ad0 K)) (v3 : Int32) (v4 : Int32) (v5 : Int32) (v6 : Int32) (ρ : Rs) (F : ((iR ρ (1, 0, 0) 1) ≤ v6 → ((v5 ≤ v4 → (∀ ad, K ad (some (.int v5)) ρ)) ∧ (¬ v5 ≤ v4 → (semV G r_Ki_open [] (fun ad => [.ref (ad (7, 0, 0)), .int v4, .int v5]) ρ (fun ad u3 ρ2 => ∃ x5 : Int32, u3 = some (.int x5) ∧ (vp_in x5 (nR ρ2 (34, 8, 0)) ∧ (∀ ρ6 : Rs, ρ6 = pI ρ2 (34, 8, 0) (Int32.toNatClampNeg x5) (v5 - v4) → (vp_in (iR ρ6 (7, 0, 0) 11) (nR ρ6 (34, 10, 0)) ∧ (∀ ρ7 : Rs, ρ7 = pI ρ6 (34, 10, 0) (Int32.toNatClampNeg (iR ρ6 (7, 0, 0) 11)) ((iR ρ6 (7, 0, 0) 0) - 1) → (∀ ρ8 : Rs, ρ8 = pI ρ7 (7, 0, 0) 11 ((iR ρ7 (7, 0, 0) 11) + 1) → (∀ ad, K ad (some (.int v5)) ρ8))))))))))) ∧ (¬ (iR ρ (1, 0, 0) 1) ≤ v6 → (vp_in v6 (nR ρ (33, 0, 0)) ∧ (((iR ρ (33, 0, 0) (Int32.toNatClampNeg v6)) = v3 → (vp_in v5 (nR ρ (34, 4, 0)) ∧ (∀ ρ14 : Rs, ρ14 = pI ρ (34, 4, 0) (Int32.toNatClampNeg v5) v6 → (vp_in v6 (nR ρ14 (34, 5, 0)) ∧ (∀ ρ15 : Rs, ρ15 = pI ρ14 (34, 5, 0) (Int32.toNatClampNeg v6) v5 → (vp_in v6 (nR ρ15 (34, 9, 0)) ∧ (∀ ρ16 : Rs, ρ16 = pI ρ15 (34, 9, 0) (Int32.toNatClampNeg v6) ((1 <<< ((iR ρ15 (1, 0, 0) 2) &&& 31)) - 1) → (Y G [] ad0 M Q 7 (fun ad => [(0, .ref (ad (7, 0, 0))), (1, .ref (ad (1, 0, 0))), (2, .ref (ad (33, 0, 0))), (3, .int v3), (4, .int v4), (5, .int (v5 + 1)), (6, .int (v6 + 1))]) (fun ad => []) ρ16)))))))) ∧ (¬ (iR ρ (33, 0, 0) (Int32.toNatClampNeg v6)) = v3 → (Y G [] ad0 M Q 7 (fun ad => [(0, .ref (ad (7, 0, 0))), (1, .ref (ad (1, 0, 0))), (2, .ref (ad (33, 0, 0))), (3, .int v3), (4, .int v4), (5, .int v5), (6, .int (v6 + 1))]) (fun ad => []) ρ)))))) : Y G [] ad0 M Q 7 (fun ad => [(0, .ref (ad (7, 0, 0))), (1, .ref (ad (1, 0, 0))), (2, .ref (ad (33, 0, 0))), (3, .int v3), (4, .int v4), (5, .int v5), (6, .int v6)]) (fun ad => []) ρ := by
  intro ad h hSt V
  show X G M Q 7 [(0, .ref (ad (7, 0, 0))), (1, .ref (ad (1, 0, 0))), (2, .ref (ad (33, 0, 0))), (3, .int v3), (4, .int v4), (5, .int v5), (6, .int v6)] [] h
  refine x_iload hM d_Ki_placeThose_7 6 rfl ?_
  refine x_aload_n hM d_Ki_placeThose_9 rfl 1 rfl ?_
  refine y_geti hG hM V ck_Wo 1 (Nat.le_of_ble_eq_true rfl) rfl rfl w_126 rfl d_Ki_placeThose_10 (1, 0, 0) rfl rfl ?_
  refine x_icmp_ge (tgt := 66) hM d_Ki_placeThose_13 (by decide) (fun q21 => ?_) (fun q21 => ?_)
  · replace F := F.1 q21
    refine x_iload hM d_Ki_placeThose_66 5 rfl ?_
    refine x_iload hM d_Ki_placeThose_68 4 rfl ?_
    refine x_icmp_le (tgt := 116) hM d_Ki_placeThose_70 (by decide) (fun q12 => ?_) (fun q12 => ?_)
    · replace F := F.1 q12
      refine x_iload hM d_Ki_placeThose_116 5 rfl ?_
      exact x_ireturn hM d_Ki_placeThose_118 rfl (y_end V hSt (F _))
    · replace F := F.2 q12
      refine x_aload_n hM d_Ki_placeThose_73 rfl 0 rfl ?_
      refine y_getr hG hM V ck_Ki 8 (Nat.le_of_ble_eq_true rfl) rfl rfl w_333 rfl d_Ki_placeThose_74 (7, 0, 0) (34, 8, 0) rfl rfl rfl ?_
      refine x_aload_n hM d_Ki_placeThose_77 rfl 0 rfl ?_
      refine x_iload hM d_Ki_placeThose_78 4 rfl ?_
      refine x_iload hM d_Ki_placeThose_80 5 rfl ?_
      refine x_callV hG hM (r' := r_Ki_open) (ci := 9) [.int v4, .int v5] rfl rfl (Nat.le_of_ble_eq_true rfl) yk_Ki_open ⟨Nat.le_of_ble_eq_true rfl, Nat.le_of_ble_eq_true rfl⟩ w_711 w_713 ws_Ki_open rfl rfl (Nat.le_of_ble_eq_true rfl) d_Ki_placeThose_82 (by rw [vT V rfl]; rfl) (sem_mono (F _ _ V) ?_)
      intro u3 h F
      obtain ⟨ad11, ρ2, V, hs4, F⟩ := F
      obtain ⟨x5, rfl, F⟩ := F
      have hs4 := (St_eq hs4).symm
      subst hs4
      refine x_iload hM d_Ki_placeThose_85 5 rfl ?_
      refine x_iload hM d_Ki_placeThose_87 4 rfl ?_
      refine x_isub hM d_Ki_placeThose_89 ?_
      obtain ⟨c10, F⟩ := F
      obtain ⟨ρ6, eρ6⟩ : ∃ z : Rs, z = pI ρ2 (34, 8, 0) (Int32.toNatClampNeg x5) (v5 - v4) := ⟨_, rfl⟩
      replace F := F ρ6 eρ6
      refine y_iastore hG hM V d_Ki_placeThose_90 (34, 8, 0) rfl rfl c10 (fun h V => ?_)
      rw [← eρ6] at V
      clear eρ6
      refine x_aload_n hM d_Ki_placeThose_91 rfl 0 rfl ?_
      refine y_getr hG hM V ck_Ki 10 (Nat.le_of_ble_eq_true rfl) rfl rfl w_335 rfl d_Ki_placeThose_92 (7, 0, 0) (34, 10, 0) rfl rfl rfl ?_
      refine x_aload_n hM d_Ki_placeThose_95 rfl 0 rfl ?_
      refine y_geti hG hM V ck_Ki 11 (Nat.le_of_ble_eq_true rfl) rfl rfl w_336 rfl d_Ki_placeThose_96 (7, 0, 0) rfl rfl ?_
      refine x_aload_n hM d_Ki_placeThose_99 rfl 0 rfl ?_
      refine y_geti hG hM V ck_Ki 0 (Nat.le_of_ble_eq_true rfl) rfl rfl w_321 rfl d_Ki_placeThose_100 (7, 0, 0) rfl rfl ?_
      refine x_iconst (v := 1) hM d_Ki_placeThose_103 (by decide) ?_
      refine x_isub hM d_Ki_placeThose_104 ?_
      obtain ⟨c9, F⟩ := F
      obtain ⟨ρ7, eρ7⟩ : ∃ z : Rs, z = pI ρ6 (34, 10, 0) (Int32.toNatClampNeg (iR ρ6 (7, 0, 0) 11)) ((iR ρ6 (7, 0, 0) 0) - 1) := ⟨_, rfl⟩
      replace F := F ρ7 eρ7
      refine y_iastore hG hM V d_Ki_placeThose_105 (34, 10, 0) rfl rfl c9 (fun h V => ?_)
      rw [← eρ7] at V
      clear eρ7
      refine x_aload_n hM d_Ki_placeThose_106 rfl 0 rfl ?_
      refine x_dup hM d_Ki_placeThose_107 rfl ?_
      refine y_geti hG hM V ck_Ki 11 (Nat.le_of_ble_eq_true rfl) rfl rfl w_336 rfl d_Ki_placeThose_108 (7, 0, 0) rfl rfl ?_
      refine x_iconst (v := 1) hM d_Ki_placeThose_111 (by decide) ?_
      refine x_iadd hM d_Ki_placeThose_112 ?_
      obtain ⟨ρ8, eρ8⟩ : ∃ z : Rs, z = pI ρ7 (7, 0, 0) 11 ((iR ρ7 (7, 0, 0) 11) + 1) := ⟨_, rfl⟩
      replace F := F ρ8 eρ8
      refine y_puti hG hM V ck_Ki 11 (Nat.le_of_ble_eq_true rfl) rfl rfl w_336 rfl d_Ki_placeThose_113 rfl (7, 0, 0) rfl rfl (fun h V => ?_)
      rw [← eρ8] at V
      clear eρ8
      refine x_iload hM d_Ki_placeThose_116 5 rfl ?_
      exact x_ireturn hM d_Ki_placeThose_118 rfl (y_end V hSt (F _))
  · replace F := F.2 q21
    refine x_aload_n hM d_Ki_placeThose_16 rfl 2 rfl ?_
    refine x_iload hM d_Ki_placeThose_17 6 rfl ?_
    obtain ⟨c13, F⟩ := F
    refine y_zaload hG hM V d_Ki_placeThose_19 (33, 0, 0) rfl rfl c13 ?_
    refine x_iload_n hM d_Ki_placeThose_20 rfl 3 rfl ?_
    refine x_icmp_ne (tgt := 60) hM d_Ki_placeThose_21 (by decide) (fun q20 => ?_) (fun q20 => ?_)
    · replace F := F.2 q20
      refine x_iinc (v := (v6 + 1)) (lv2 := [(6, .int (v6 + 1)), (0, .ref (ad (7, 0, 0))), (1, .ref (ad (1, 0, 0))), (2, .ref (ad (33, 0, 0))), (3, .int v3), (4, .int v4), (5, .int v5)]) hM d_Ki_placeThose_60 (j := 6) rfl rfl (Nat.le_of_ble_eq_true rfl) rfl ?_
      refine x_goto (tgt := 7) hM d_Ki_placeThose_63 (by decide) ?_
      refine x_sub [1, 2, 3, 4, 5, 6, 0] rfl ?_
      exact F _ _ hSt V
    · replace F := F.1 q20
      refine x_aload_n hM d_Ki_placeThose_24 rfl 0 rfl ?_
      refine y_getr hG hM V ck_Ki 4 (Nat.le_of_ble_eq_true rfl) rfl rfl w_329 rfl d_Ki_placeThose_25 (7, 0, 0) (34, 4, 0) rfl rfl rfl ?_
      refine x_iload hM d_Ki_placeThose_28 5 rfl ?_
      refine x_iload hM d_Ki_placeThose_30 6 rfl ?_
      obtain ⟨c19, F⟩ := F
      obtain ⟨ρ14, eρ14⟩ : ∃ z : Rs, z = pI ρ (34, 4, 0) (Int32.toNatClampNeg v5) v6 := ⟨_, rfl⟩
      replace F := F ρ14 eρ14
      refine y_iastore hG hM V d_Ki_placeThose_32 (34, 4, 0) rfl rfl c19 (fun h V => ?_)
      rw [← eρ14] at V
      clear eρ14
      refine x_aload_n hM d_Ki_placeThose_33 rfl 0 rfl ?_
      refine y_getr hG hM V ck_Ki 5 (Nat.le_of_ble_eq_true rfl) rfl rfl w_330 rfl d_Ki_placeThose_34 (7, 0, 0) (34, 5, 0) rfl rfl rfl ?_
      refine x_iload hM d_Ki_placeThose_37 6 rfl ?_
      refine x_iload hM d_Ki_placeThose_39 5 rfl ?_
      obtain ⟨c18, F⟩ := F
      obtain ⟨ρ15, eρ15⟩ : ∃ z : Rs, z = pI ρ14 (34, 5, 0) (Int32.toNatClampNeg v6) v5 := ⟨_, rfl⟩
      replace F := F ρ15 eρ15
      refine y_iastore hG hM V d_Ki_placeThose_41 (34, 5, 0) rfl rfl c18 (fun h V => ?_)
      rw [← eρ15] at V
      clear eρ15
      refine x_aload_n hM d_Ki_placeThose_42 rfl 0 rfl ?_
      refine y_getr hG hM V ck_Ki 9 (Nat.le_of_ble_eq_true rfl) rfl rfl w_334 rfl d_Ki_placeThose_43 (7, 0, 0) (34, 9, 0) rfl rfl rfl ?_
      refine x_iload hM d_Ki_placeThose_46 6 rfl ?_
      refine x_iconst (v := 1) hM d_Ki_placeThose_48 (by decide) ?_
      refine x_aload_n hM d_Ki_placeThose_49 rfl 1 rfl ?_
      refine y_geti hG hM V ck_Wo 2 (Nat.le_of_ble_eq_true rfl) rfl rfl w_137 rfl d_Ki_placeThose_50 (1, 0, 0) rfl rfl ?_
      refine x_ishl hM d_Ki_placeThose_53 ?_
      refine x_iconst (v := 1) hM d_Ki_placeThose_54 (by decide) ?_
      refine x_isub hM d_Ki_placeThose_55 ?_
      obtain ⟨c17, F⟩ := F
      obtain ⟨ρ16, eρ16⟩ : ∃ z : Rs, z = pI ρ15 (34, 9, 0) (Int32.toNatClampNeg v6) ((1 <<< ((iR ρ15 (1, 0, 0) 2) &&& 31)) - 1) := ⟨_, rfl⟩
      replace F := F ρ16 eρ16
      refine y_iastore hG hM V d_Ki_placeThose_56 (34, 9, 0) rfl rfl c17 (fun h V => ?_)
      rw [← eρ16] at V
      clear eρ16
      refine x_iinc (v := (v5 + 1)) (lv2 := [(5, .int (v5 + 1)), (0, .ref (ad (7, 0, 0))), (1, .ref (ad (1, 0, 0))), (2, .ref (ad (33, 0, 0))), (3, .int v3), (4, .int v4), (6, .int v6)]) hM d_Ki_placeThose_57 (j := 5) rfl rfl (Nat.le_of_ble_eq_true rfl) rfl ?_
      refine x_iinc (v := (v6 + 1)) (lv2 := [(6, .int (v6 + 1)), (5, .int (v5 + 1)), (0, .ref (ad (7, 0, 0))), (1, .ref (ad (1, 0, 0))), (2, .ref (ad (33, 0, 0))), (3, .int v3), (4, .int v4)]) hM d_Ki_placeThose_60 (j := 6) rfl rfl (Nat.le_of_ble_eq_true rfl) rfl ?_
      refine x_goto (tgt := 7) hM d_Ki_placeThose_63 (by decide) ?_
      refine x_sub [2, 3, 4, 5, 6, 1, 0] rfl ?_
      exact F _ _ hSt V
set_option maxRecDepth 100000 in
set_option maxHeartbeats 4000000 in
theorem T_Ki_open_0 {G : Gc} {M : Mc} {Q : State → Prop} {ad0 : Ro → Nat} {K : (Ro → Nat) → Option Value → Rs → Prop} (hG : gok G) (hM : mok G M r_Ki_open Q (KV G [] ad0 K)) (v1 : Int32) (v2 : Int32) (ρ : Rs) (F : ∀ ρ1 : Rs, ρ1 = pI ρ (7, 0, 0) 0 ((iR ρ (7, 0, 0) 0) + 1) → (vp_in (iR ρ (7, 0, 0) 0) (nR ρ1 (34, 6, 0)) ∧ (∀ ρ2 : Rs, ρ2 = pI ρ1 (34, 6, 0) (Int32.toNatClampNeg (iR ρ (7, 0, 0) 0)) v1 → (vp_in (iR ρ (7, 0, 0) 0) (nR ρ2 (34, 7, 0)) ∧ (∀ ρ3 : Rs, ρ3 = pI ρ2 (34, 7, 0) (Int32.toNatClampNeg (iR ρ (7, 0, 0) 0)) v2 → (vp_in (iR ρ (7, 0, 0) 0) (nR ρ3 (34, 8, 0)) ∧ (∀ ρ4 : Rs, ρ4 = pI ρ3 (34, 8, 0) (Int32.toNatClampNeg (iR ρ (7, 0, 0) 0)) 0 → (Y G [] ad0 M Q 39 (fun ad => [(0, .ref (ad (7, 0, 0))), (2, .int v2), (3, .int (iR ρ (7, 0, 0) 0)), (4, .int v1)]) (fun ad => []) ρ4)))))))) : Y G [] ad0 M Q 0 (fun ad => [(0, .ref (ad (7, 0, 0))), (1, .int v1), (2, .int v2)]) (fun ad => []) ρ := by
  intro ad h hSt V
  show X G M Q 0 [(0, .ref (ad (7, 0, 0))), (1, .int v1), (2, .int v2)] [] h
  refine x_aload_n hM d_Ki_open_0 rfl 0 rfl ?_
  refine y_geti hG hM V ck_Ki 0 (Nat.le_of_ble_eq_true rfl) rfl rfl w_321 rfl d_Ki_open_1 (7, 0, 0) rfl rfl ?_
  refine x_istore_n (lv2 := [(3, .int (iR ρ (7, 0, 0) 0)), (0, .ref (ad (7, 0, 0))), (1, .int v1), (2, .int v2)]) hM d_Ki_open_4 rfl (Nat.le_of_ble_eq_true rfl) rfl ?_
  refine x_aload_n hM d_Ki_open_5 rfl 1 rfl ?_
  refine x_dup hM d_Ki_open_6 rfl ?_
  refine y_geti hG hM V ck_Ki 0 (Nat.le_of_ble_eq_true rfl) rfl rfl w_321 rfl d_Ki_open_7 (7, 0, 0) rfl rfl ?_
  refine x_iconst (v := 1) hM d_Ki_open_10 (by decide) ?_
  refine x_iadd hM d_Ki_open_11 ?_
  obtain ⟨ρ1, eρ1⟩ : ∃ z : Rs, z = pI ρ (7, 0, 0) 0 ((iR ρ (7, 0, 0) 0) + 1) := ⟨_, rfl⟩
  replace F := F ρ1 eρ1
  refine y_puti hG hM V ck_Ki 0 (Nat.le_of_ble_eq_true rfl) rfl rfl w_321 rfl d_Ki_open_12 rfl (7, 0, 0) rfl rfl (fun h V => ?_)
  rw [← eρ1] at V
  clear eρ1
  refine x_aload_n hM d_Ki_open_15 rfl 1 rfl ?_
  refine y_getr hG hM V ck_Ki 6 (Nat.le_of_ble_eq_true rfl) rfl rfl w_331 rfl d_Ki_open_16 (7, 0, 0) (34, 6, 0) rfl rfl rfl ?_
  refine x_iload_n hM d_Ki_open_19 rfl 0 rfl ?_
  refine x_iload_n hM d_Ki_open_20 rfl 2 rfl ?_
  obtain ⟨c7, F⟩ := F
  obtain ⟨ρ2, eρ2⟩ : ∃ z : Rs, z = pI ρ1 (34, 6, 0) (Int32.toNatClampNeg (iR ρ (7, 0, 0) 0)) v1 := ⟨_, rfl⟩
  replace F := F ρ2 eρ2
  refine y_iastore hG hM V d_Ki_open_21 (34, 6, 0) rfl rfl c7 (fun h V => ?_)
  rw [← eρ2] at V
  clear eρ2
  refine x_aload_n hM d_Ki_open_22 rfl 1 rfl ?_
  refine y_getr hG hM V ck_Ki 7 (Nat.le_of_ble_eq_true rfl) rfl rfl w_332 rfl d_Ki_open_23 (7, 0, 0) (34, 7, 0) rfl rfl rfl ?_
  refine x_iload_n hM d_Ki_open_26 rfl 0 rfl ?_
  refine x_iload_n hM d_Ki_open_27 rfl 3 rfl ?_
  obtain ⟨c6, F⟩ := F
  obtain ⟨ρ3, eρ3⟩ : ∃ z : Rs, z = pI ρ2 (34, 7, 0) (Int32.toNatClampNeg (iR ρ (7, 0, 0) 0)) v2 := ⟨_, rfl⟩
  replace F := F ρ3 eρ3
  refine y_iastore hG hM V d_Ki_open_28 (34, 7, 0) rfl rfl c6 (fun h V => ?_)
  rw [← eρ3] at V
  clear eρ3
  refine x_aload_n hM d_Ki_open_29 rfl 1 rfl ?_
  refine y_getr hG hM V ck_Ki 8 (Nat.le_of_ble_eq_true rfl) rfl rfl w_333 rfl d_Ki_open_30 (7, 0, 0) (34, 8, 0) rfl rfl rfl ?_
  refine x_iload_n hM d_Ki_open_33 rfl 0 rfl ?_
  refine x_iconst (v := 0) hM d_Ki_open_34 (by decide) ?_
  obtain ⟨c5, F⟩ := F
  obtain ⟨ρ4, eρ4⟩ : ∃ z : Rs, z = pI ρ3 (34, 8, 0) (Int32.toNatClampNeg (iR ρ (7, 0, 0) 0)) 0 := ⟨_, rfl⟩
  replace F := F ρ4 eρ4
  refine y_iastore hG hM V d_Ki_open_35 (34, 8, 0) rfl rfl c5 (fun h V => ?_)
  rw [← eρ4] at V
  clear eρ4
  refine x_iload_n hM d_Ki_open_36 rfl 2 rfl ?_
  refine x_istore (lv2 := [(4, .int v1), (3, .int (iR ρ (7, 0, 0) 0)), (0, .ref (ad (7, 0, 0))), (1, .int v1), (2, .int v2)]) hM d_Ki_open_37 (Nat.le_of_ble_eq_true rfl) rfl ?_
  refine x_sub [2, 4, 1, 0] rfl ?_
  exact F _ _ hSt V
set_option maxRecDepth 100000 in
set_option maxHeartbeats 4000000 in
theorem T_Ki_open_39 {G : Gc} {M : Mc} {Q : State → Prop} {ad0 : Ro → Nat} {K : (Ro → Nat) → Option Value → Rs → Prop} (hG : gok G) (hM : mok G M r_Ki_open Q (KV G [] ad0 K)) (v2 : Int32) (v3 : Int32) (v4 : Int32) (ρ : Rs) (F : (v2 ≤ v4 → (∀ ad, K ad (some (.int v3)) ρ)) ∧ (¬ v2 ≤ v4 → (vp_in v4 (nR ρ (34, 4, 0)) ∧ (vp_in (iR ρ (34, 4, 0) (Int32.toNatClampNeg v4)) (nR ρ (34, 2, 0)) ∧ (∀ ρ3 : Rs, ρ3 = pI ρ (34, 2, 0) (Int32.toNatClampNeg (iR ρ (34, 4, 0) (Int32.toNatClampNeg v4))) v3 → (Y G [] ad0 M Q 39 (fun ad => [(0, .ref (ad (7, 0, 0))), (2, .int v2), (3, .int v3), (4, .int (v4 + 1))]) (fun ad => []) ρ3)))))) : Y G [] ad0 M Q 39 (fun ad => [(0, .ref (ad (7, 0, 0))), (2, .int v2), (3, .int v3), (4, .int v4)]) (fun ad => []) ρ := by
  intro ad h hSt V
  show X G M Q 39 [(0, .ref (ad (7, 0, 0))), (2, .int v2), (3, .int v3), (4, .int v4)] [] h
  refine x_iload hM d_Ki_open_39 3 rfl ?_
  refine x_iload_n hM d_Ki_open_41 rfl 1 rfl ?_
  refine x_icmp_ge (tgt := 64) hM d_Ki_open_42 (by decide) (fun q5 => ?_) (fun q5 => ?_)
  · replace F := F.1 q5
    refine x_iload_n hM d_Ki_open_64 rfl 2 rfl ?_
    exact x_ireturn hM d_Ki_open_65 rfl (y_end V hSt (F _))
  · replace F := F.2 q5
    refine x_aload_n hM d_Ki_open_45 rfl 0 rfl ?_
    refine y_getr hG hM V ck_Ki 2 (Nat.le_of_ble_eq_true rfl) rfl rfl w_325 rfl d_Ki_open_46 (7, 0, 0) (34, 2, 0) rfl rfl rfl ?_
    refine x_aload_n hM d_Ki_open_49 rfl 0 rfl ?_
    refine y_getr hG hM V ck_Ki 4 (Nat.le_of_ble_eq_true rfl) rfl rfl w_329 rfl d_Ki_open_50 (7, 0, 0) (34, 4, 0) rfl rfl rfl ?_
    refine x_iload hM d_Ki_open_53 3 rfl ?_
    obtain ⟨c2, F⟩ := F
    refine y_iaload hG hM V d_Ki_open_55 (34, 4, 0) rfl rfl c2 ?_
    refine x_iload_n hM d_Ki_open_56 rfl 2 rfl ?_
    obtain ⟨c4, F⟩ := F
    obtain ⟨ρ3, eρ3⟩ : ∃ z : Rs, z = pI ρ (34, 2, 0) (Int32.toNatClampNeg (iR ρ (34, 4, 0) (Int32.toNatClampNeg v4))) v3 := ⟨_, rfl⟩
    replace F := F ρ3 eρ3
    refine y_iastore hG hM V d_Ki_open_57 (34, 2, 0) rfl rfl c4 (fun h V => ?_)
    rw [← eρ3] at V
    clear eρ3
    refine x_iinc (v := (v4 + 1)) (lv2 := [(4, .int (v4 + 1)), (0, .ref (ad (7, 0, 0))), (2, .int v2), (3, .int v3)]) hM d_Ki_open_58 (j := 3) rfl rfl (Nat.le_of_ble_eq_true rfl) rfl ?_
    refine x_goto (tgt := 39) hM d_Ki_open_61 (by decide) ?_
    refine x_sub [1, 2, 3, 0] rfl ?_
    exact F _ _ hSt V
set_option maxRecDepth 100000 in
set_option maxHeartbeats 4000000 in
theorem T_Ki_settle_0 {G : Gc} {M : Mc} {Q : State → Prop} {ad0 : Ro → Nat} {K : (Ro → Nat) → Option Value → Rs → Prop} (hG : gok G) (hM : mok G M r_Ki_settle Q (KV G [] ad0 K)) (v2 : Int32) (ρ : Rs) (F : vp_in v2 (nR ρ (34, 6, 0)) ∧ (vp_in v2 (nR ρ (34, 8, 0)) ∧ (vp_in v2 (nR ρ (34, 7, 0)) ∧ (∀ z4 : Int32, z4 = (if (iR ρ (34, 7, 0) (Int32.toNatClampNeg v2)) < (((iR ρ (34, 6, 0) (Int32.toNatClampNeg v2)) + (iR ρ (34, 8, 0) (Int32.toNatClampNeg v2))) + 1) then (iR ρ (34, 7, 0) (Int32.toNatClampNeg v2)) else (((iR ρ (34, 6, 0) (Int32.toNatClampNeg v2)) + (iR ρ (34, 8, 0) (Int32.toNatClampNeg v2))) + 1)) → (vp_in v2 (nR ρ (34, 6, 0)) ∧ (Y G [] ad0 M Q 39 (fun ad => [(0, .ref (ad (7, 0, 0))), (1, .ref (ad (1, 0, 0))), (2, .int v2), (3, .int ((iR ρ (34, 6, 0) (Int32.toNatClampNeg v2)) + (iR ρ (34, 8, 0) (Int32.toNatClampNeg v2)))), (4, .int z4), (5, .int 0), (6, .int (iR ρ (34, 6, 0) (Int32.toNatClampNeg v2)))]) (fun ad => []) ρ)))))) : Y G [] ad0 M Q 0 (fun ad => [(0, .ref (ad (7, 0, 0))), (1, .ref (ad (1, 0, 0))), (2, .int v2)]) (fun ad => []) ρ := by
  intro ad h hSt V
  show X G M Q 0 [(0, .ref (ad (7, 0, 0))), (1, .ref (ad (1, 0, 0))), (2, .int v2)] [] h
  refine x_aload_n hM d_Ki_settle_0 rfl 0 rfl ?_
  refine y_getr hG hM V ck_Ki 6 (Nat.le_of_ble_eq_true rfl) rfl rfl w_331 rfl d_Ki_settle_1 (7, 0, 0) (34, 6, 0) rfl rfl rfl ?_
  refine x_iload_n hM d_Ki_settle_4 rfl 2 rfl ?_
  obtain ⟨c1, F⟩ := F
  refine y_iaload hG hM V d_Ki_settle_5 (34, 6, 0) rfl rfl c1 ?_
  refine x_aload_n hM d_Ki_settle_6 rfl 0 rfl ?_
  refine y_getr hG hM V ck_Ki 8 (Nat.le_of_ble_eq_true rfl) rfl rfl w_333 rfl d_Ki_settle_7 (7, 0, 0) (34, 8, 0) rfl rfl rfl ?_
  refine x_iload_n hM d_Ki_settle_10 rfl 2 rfl ?_
  obtain ⟨c2, F⟩ := F
  refine y_iaload hG hM V d_Ki_settle_11 (34, 8, 0) rfl rfl c2 ?_
  refine x_iadd hM d_Ki_settle_12 ?_
  refine x_istore_n (lv2 := [(3, .int ((iR ρ (34, 6, 0) (Int32.toNatClampNeg v2)) + (iR ρ (34, 8, 0) (Int32.toNatClampNeg v2)))), (0, .ref (ad (7, 0, 0))), (1, .ref (ad (1, 0, 0))), (2, .int v2)]) hM d_Ki_settle_13 rfl (Nat.le_of_ble_eq_true rfl) rfl ?_
  refine x_iload_n hM d_Ki_settle_14 rfl 0 rfl ?_
  refine x_iconst (v := 1) hM d_Ki_settle_15 (by decide) ?_
  refine x_iadd hM d_Ki_settle_16 ?_
  refine x_aload_n hM d_Ki_settle_17 rfl 1 rfl ?_
  refine y_getr hG hM V ck_Ki 7 (Nat.le_of_ble_eq_true rfl) rfl rfl w_332 rfl d_Ki_settle_18 (7, 0, 0) (34, 7, 0) rfl rfl rfl ?_
  refine x_iload_n hM d_Ki_settle_21 rfl 3 rfl ?_
  obtain ⟨c3, F⟩ := F
  refine y_iaload hG hM V d_Ki_settle_22 (34, 7, 0) rfl rfl c3 ?_
  obtain ⟨z4, ez4⟩ : ∃ z : Int32, z = (if (iR ρ (34, 7, 0) (Int32.toNatClampNeg v2)) < (((iR ρ (34, 6, 0) (Int32.toNatClampNeg v2)) + (iR ρ (34, 8, 0) (Int32.toNatClampNeg v2))) + 1) then (iR ρ (34, 7, 0) (Int32.toNatClampNeg v2)) else (((iR ρ (34, 6, 0) (Int32.toNatClampNeg v2)) + (iR ρ (34, 8, 0) (Int32.toNatClampNeg v2))) + 1)) := ⟨_, rfl⟩
  replace F := F z4 ez4
  refine x_mmin hG hM rfl w_720 w_721 w_14 w_mmin (Nat.le_of_ble_eq_true rfl) (Nat.le_of_ble_eq_true rfl) d_Ki_settle_23 ?_
  rw [← ez4]
  clear ez4
  refine x_istore (lv2 := [(4, .int z4), (3, .int ((iR ρ (34, 6, 0) (Int32.toNatClampNeg v2)) + (iR ρ (34, 8, 0) (Int32.toNatClampNeg v2)))), (0, .ref (ad (7, 0, 0))), (1, .ref (ad (1, 0, 0))), (2, .int v2)]) hM d_Ki_settle_26 (Nat.le_of_ble_eq_true rfl) rfl ?_
  refine x_iconst (v := 0) hM d_Ki_settle_28 (by decide) ?_
  refine x_istore (lv2 := [(5, .int 0), (4, .int z4), (3, .int ((iR ρ (34, 6, 0) (Int32.toNatClampNeg v2)) + (iR ρ (34, 8, 0) (Int32.toNatClampNeg v2)))), (0, .ref (ad (7, 0, 0))), (1, .ref (ad (1, 0, 0))), (2, .int v2)]) hM d_Ki_settle_29 (Nat.le_of_ble_eq_true rfl) rfl ?_
  refine x_aload_n hM d_Ki_settle_31 rfl 3 rfl ?_
  refine y_getr hG hM V ck_Ki 6 (Nat.le_of_ble_eq_true rfl) rfl rfl w_331 rfl d_Ki_settle_32 (7, 0, 0) (34, 6, 0) rfl rfl rfl ?_
  refine x_iload_n hM d_Ki_settle_35 rfl 5 rfl ?_
  obtain ⟨c5, F⟩ := F
  refine y_iaload hG hM V d_Ki_settle_36 (34, 6, 0) rfl rfl c5 ?_
  refine x_istore (lv2 := [(6, .int (iR ρ (34, 6, 0) (Int32.toNatClampNeg v2))), (5, .int 0), (4, .int z4), (3, .int ((iR ρ (34, 6, 0) (Int32.toNatClampNeg v2)) + (iR ρ (34, 8, 0) (Int32.toNatClampNeg v2)))), (0, .ref (ad (7, 0, 0))), (1, .ref (ad (1, 0, 0))), (2, .int v2)]) hM d_Ki_settle_37 (Nat.le_of_ble_eq_true rfl) rfl ?_
  refine x_sub [4, 5, 6, 3, 2, 1, 0] rfl ?_
  exact F _ _ hSt V
set_option maxRecDepth 100000 in
set_option maxHeartbeats 4000000 in
theorem T_Ki_settle_39 {G : Gc} {M : Mc} {Q : State → Prop} {ad0 : Ro → Nat} {K : (Ro → Nat) → Option Value → Rs → Prop} (hG : gok G) (hM : mok G M r_Ki_settle Q (KV G [] ad0 K)) (v2 : Int32) (v3 : Int32) (v4 : Int32) (v5 : Int32) (v6 : Int32) (ρ : Rs) (F : (v4 ≤ v6 → (vp_in v2 (nR ρ (34, 8, 0)) ∧ (∀ ρ4 : Rs, ρ4 = pI ρ (34, 8, 0) (Int32.toNatClampNeg v2) 0 → (Y G [] ad0 M Q 108 (fun ad => [(0, .ref (ad (7, 0, 0))), (1, .ref (ad (1, 0, 0))), (2, .int v2), (3, .int v3), (4, .int v4), (5, .int v5), (6, .int 1), (7, .int 0)]) (fun ad => []) ρ4)))) ∧ (¬ v4 ≤ v6 → (vp_in v6 (nR ρ (34, 4, 0)) ∧ (vp_in (iR ρ (34, 4, 0) (Int32.toNatClampNeg v6)) (nR ρ (34, 9, 0)) ∧ (vp_in v6 (nR ρ (34, 4, 0)) ∧ (vp_in (iR ρ (34, 4, 0) (Int32.toNatClampNeg v6)) (nR ρ (34, 9, 0)) ∧ (∀ ρ9 : Rs, ρ9 = pI ρ (34, 9, 0) (Int32.toNatClampNeg (iR ρ (34, 4, 0) (Int32.toNatClampNeg v6))) 0 → (vp_in v6 (nR ρ9 (34, 4, 0)) ∧ (vp_in (iR ρ9 (34, 4, 0) (Int32.toNatClampNeg v6)) (nR ρ9 (34, 12, 0)) ∧ (∀ ρ11 : Rs, ρ11 = pI ρ9 (34, 12, 0) (Int32.toNatClampNeg (iR ρ9 (34, 4, 0) (Int32.toNatClampNeg v6))) 0 → (Y G [] ad0 M Q 39 (fun ad => [(0, .ref (ad (7, 0, 0))), (1, .ref (ad (1, 0, 0))), (2, .int v2), (3, .int v3), (4, .int v4), (5, .int (v5 ||| (iR ρ (34, 9, 0) (Int32.toNatClampNeg (iR ρ (34, 4, 0) (Int32.toNatClampNeg v6)))))), (6, .int (v6 + 1))]) (fun ad => []) ρ11))))))))))) : Y G [] ad0 M Q 39 (fun ad => [(0, .ref (ad (7, 0, 0))), (1, .ref (ad (1, 0, 0))), (2, .int v2), (3, .int v3), (4, .int v4), (5, .int v5), (6, .int v6)]) (fun ad => []) ρ := by
  intro ad h hSt V
  show X G M Q 39 [(0, .ref (ad (7, 0, 0))), (1, .ref (ad (1, 0, 0))), (2, .int v2), (3, .int v3), (4, .int v4), (5, .int v5), (6, .int v6)] [] h
  refine x_iload hM d_Ki_settle_39 6 rfl ?_
  refine x_iload hM d_Ki_settle_41 4 rfl ?_
  refine x_icmp_ge (tgt := 95) hM d_Ki_settle_43 (by decide) (fun q14 => ?_) (fun q14 => ?_)
  · replace F := F.1 q14
    refine x_aload_n hM d_Ki_settle_95 rfl 0 rfl ?_
    refine y_getr hG hM V ck_Ki 8 (Nat.le_of_ble_eq_true rfl) rfl rfl w_333 rfl d_Ki_settle_96 (7, 0, 0) (34, 8, 0) rfl rfl rfl ?_
    refine x_iload_n hM d_Ki_settle_99 rfl 2 rfl ?_
    refine x_iconst (v := 0) hM d_Ki_settle_100 (by decide) ?_
    obtain ⟨c5, F⟩ := F
    obtain ⟨ρ4, eρ4⟩ : ∃ z : Rs, z = pI ρ (34, 8, 0) (Int32.toNatClampNeg v2) 0 := ⟨_, rfl⟩
    replace F := F ρ4 eρ4
    refine y_iastore hG hM V d_Ki_settle_101 (34, 8, 0) rfl rfl c5 (fun h V => ?_)
    rw [← eρ4] at V
    clear eρ4
    refine x_iconst (v := 1) hM d_Ki_settle_102 (by decide) ?_
    refine x_istore (lv2 := [(6, .int 1), (0, .ref (ad (7, 0, 0))), (1, .ref (ad (1, 0, 0))), (2, .int v2), (3, .int v3), (4, .int v4), (5, .int v5)]) hM d_Ki_settle_103 (Nat.le_of_ble_eq_true rfl) rfl ?_
    refine x_iconst (v := 0) hM d_Ki_settle_105 (by decide) ?_
    refine x_istore (lv2 := [(7, .int 0), (6, .int 1), (0, .ref (ad (7, 0, 0))), (1, .ref (ad (1, 0, 0))), (2, .int v2), (3, .int v3), (4, .int v4), (5, .int v5)]) hM d_Ki_settle_106 (Nat.le_of_ble_eq_true rfl) rfl ?_
    refine x_sub [2, 3, 4, 5, 6, 7, 1, 0] rfl ?_
    exact F _ _ hSt V
  · replace F := F.2 q14
    refine x_iload hM d_Ki_settle_46 5 rfl ?_
    refine x_aload_n hM d_Ki_settle_48 rfl 0 rfl ?_
    refine y_getr hG hM V ck_Ki 9 (Nat.le_of_ble_eq_true rfl) rfl rfl w_334 rfl d_Ki_settle_49 (7, 0, 0) (34, 9, 0) rfl rfl rfl ?_
    refine x_aload_n hM d_Ki_settle_52 rfl 0 rfl ?_
    refine y_getr hG hM V ck_Ki 4 (Nat.le_of_ble_eq_true rfl) rfl rfl w_329 rfl d_Ki_settle_53 (7, 0, 0) (34, 4, 0) rfl rfl rfl ?_
    refine x_iload hM d_Ki_settle_56 6 rfl ?_
    obtain ⟨c6, F⟩ := F
    refine y_iaload hG hM V d_Ki_settle_58 (34, 4, 0) rfl rfl c6 ?_
    obtain ⟨c7, F⟩ := F
    refine y_iaload hG hM V d_Ki_settle_59 (34, 9, 0) rfl rfl c7 ?_
    refine x_ior hM d_Ki_settle_60 ?_
    refine x_istore (lv2 := [(5, .int (v5 ||| (iR ρ (34, 9, 0) (Int32.toNatClampNeg (iR ρ (34, 4, 0) (Int32.toNatClampNeg v6)))))), (0, .ref (ad (7, 0, 0))), (1, .ref (ad (1, 0, 0))), (2, .int v2), (3, .int v3), (4, .int v4), (6, .int v6)]) hM d_Ki_settle_61 (Nat.le_of_ble_eq_true rfl) rfl ?_
    refine x_aload_n hM d_Ki_settle_63 rfl 1 rfl ?_
    refine y_getr hG hM V ck_Ki 9 (Nat.le_of_ble_eq_true rfl) rfl rfl w_334 rfl d_Ki_settle_64 (7, 0, 0) (34, 9, 0) rfl rfl rfl ?_
    refine x_aload_n hM d_Ki_settle_67 rfl 1 rfl ?_
    refine y_getr hG hM V ck_Ki 4 (Nat.le_of_ble_eq_true rfl) rfl rfl w_329 rfl d_Ki_settle_68 (7, 0, 0) (34, 4, 0) rfl rfl rfl ?_
    refine x_iload hM d_Ki_settle_71 6 rfl ?_
    obtain ⟨c8, F⟩ := F
    refine y_iaload hG hM V d_Ki_settle_73 (34, 4, 0) rfl rfl c8 ?_
    refine x_iconst (v := 0) hM d_Ki_settle_74 (by decide) ?_
    obtain ⟨c13, F⟩ := F
    obtain ⟨ρ9, eρ9⟩ : ∃ z : Rs, z = pI ρ (34, 9, 0) (Int32.toNatClampNeg (iR ρ (34, 4, 0) (Int32.toNatClampNeg v6))) 0 := ⟨_, rfl⟩
    replace F := F ρ9 eρ9
    refine y_iastore hG hM V d_Ki_settle_75 (34, 9, 0) rfl rfl c13 (fun h V => ?_)
    rw [← eρ9] at V
    clear eρ9
    refine x_aload_n hM d_Ki_settle_76 rfl 1 rfl ?_
    refine y_getr hG hM V ck_Ki 12 (Nat.le_of_ble_eq_true rfl) rfl rfl w_337 rfl d_Ki_settle_77 (7, 0, 0) (34, 12, 0) rfl rfl rfl ?_
    refine x_aload_n hM d_Ki_settle_80 rfl 1 rfl ?_
    refine y_getr hG hM V ck_Ki 4 (Nat.le_of_ble_eq_true rfl) rfl rfl w_329 rfl d_Ki_settle_81 (7, 0, 0) (34, 4, 0) rfl rfl rfl ?_
    refine x_iload hM d_Ki_settle_84 6 rfl ?_
    obtain ⟨c10, F⟩ := F
    refine y_iaload hG hM V d_Ki_settle_86 (34, 4, 0) rfl rfl c10 ?_
    refine x_iconst (v := 0) hM d_Ki_settle_87 (by decide) ?_
    obtain ⟨c12, F⟩ := F
    obtain ⟨ρ11, eρ11⟩ : ∃ z : Rs, z = pI ρ9 (34, 12, 0) (Int32.toNatClampNeg (iR ρ9 (34, 4, 0) (Int32.toNatClampNeg v6))) 0 := ⟨_, rfl⟩
    replace F := F ρ11 eρ11
    refine y_iastore hG hM V d_Ki_settle_88 (34, 12, 0) rfl rfl c12 (fun h V => ?_)
    rw [← eρ11] at V
    clear eρ11
    refine x_iinc (v := (v6 + 1)) (lv2 := [(6, .int (v6 + 1)), (5, .int (v5 ||| (iR ρ (34, 9, 0) (Int32.toNatClampNeg (iR ρ (34, 4, 0) (Int32.toNatClampNeg v6)))))), (0, .ref (ad (7, 0, 0))), (1, .ref (ad (1, 0, 0))), (2, .int v2), (3, .int v3), (4, .int v4)]) hM d_Ki_settle_89 (j := 6) rfl rfl (Nat.le_of_ble_eq_true rfl) rfl ?_
    refine x_goto (tgt := 39) hM d_Ki_settle_92 (by decide) ?_
    refine x_sub [2, 3, 4, 5, 6, 1, 0] rfl ?_
    exact F _ _ hSt V
set_option maxRecDepth 100000 in
set_option maxHeartbeats 4000000 in
theorem T_Ki_settle_108 {G : Gc} {M : Mc} {Q : State → Prop} {ad0 : Ro → Nat} {K : (Ro → Nat) → Option Value → Rs → Prop} (hG : gok G) (hM : mok G M r_Ki_settle Q (KV G [] ad0 K)) (v2 : Int32) (v3 : Int32) (v4 : Int32) (v5 : Int32) (v6 : Int32) (v7 : Int32) (ρ : Rs) (F : ((iR ρ (1, 0, 0) 2) ≤ v7 → ((v6 ≤ 1 → (∀ ad, K ad none ρ)) ∧ (¬ v6 ≤ 1 → (vp_in v2 (nR ρ (34, 6, 0)) ∧ (semV G r_Ki_sortByGroup [] (fun ad => [.ref (ad (7, 0, 0)), .int (iR ρ (34, 6, 0) (Int32.toNatClampNeg v2)), .int v3, .int v6]) ρ (fun ad u4 ρ3 => u4 = none ∧ (semV G r_Ki_divide [] (fun ad => [.ref (ad (7, 0, 0)), .ref (ad (1, 0, 0)), .int v2, .int v3, .int v6]) ρ3 (fun ad u7 ρ6 => u7 = none ∧ (∀ ad, K ad none ρ6))))))))) ∧ (¬ (iR ρ (1, 0, 0) 2) ≤ v7 → ((((v5 >>> (v7 &&& 31)) &&& 1) = 0 → (Y G [] ad0 M Q 108 (fun ad => [(0, .ref (ad (7, 0, 0))), (1, .ref (ad (1, 0, 0))), (2, .int v2), (3, .int v3), (4, .int v4), (5, .int v5), (6, .int v6), (7, .int (v7 + 1))]) (fun ad => []) ρ)) ∧ (¬ ((v5 >>> (v7 &&& 31)) &&& 1) = 0 → (vp_in v7 12 ∧ (vp_in v2 (nR ρ (34, 6, 0)) ∧ (semV G r_Ki_regroup [] (fun ad => [.ref (ad (7, 0, 0)), .ref (ad (20, (Int32.toNatClampNeg v7), 0)), .int (iR ρ (34, 6, 0) (Int32.toNatClampNeg v2)), .int v4]) ρ (fun ad u17 ρ16 => ∃ x19 : Int32, u17 = some (.int x19) ∧ (Y G [] ad0 M Q 108 (fun ad => [(0, .ref (ad (7, 0, 0))), (1, .ref (ad (1, 0, 0))), (2, .int v2), (3, .int v3), (4, .int v4), (5, .int v5), (6, .int x19), (7, .int (v7 + 1))]) (fun ad => []) ρ16))))))))) : Y G [] ad0 M Q 108 (fun ad => [(0, .ref (ad (7, 0, 0))), (1, .ref (ad (1, 0, 0))), (2, .int v2), (3, .int v3), (4, .int v4), (5, .int v5), (6, .int v6), (7, .int v7)]) (fun ad => []) ρ := by
  intro ad h hSt V
  show X G M Q 108 [(0, .ref (ad (7, 0, 0))), (1, .ref (ad (1, 0, 0))), (2, .int v2), (3, .int v3), (4, .int v4), (5, .int v5), (6, .int v6), (7, .int v7)] [] h
  refine x_iload hM d_Ki_settle_108 7 rfl ?_
  refine x_aload_n hM d_Ki_settle_110 rfl 1 rfl ?_
  refine y_geti hG hM V ck_Wo 2 (Nat.le_of_ble_eq_true rfl) rfl rfl w_137 rfl d_Ki_settle_111 (1, 0, 0) rfl rfl ?_
  refine x_icmp_ge (tgt := 154) hM d_Ki_settle_114 (by decide) (fun q22 => ?_) (fun q22 => ?_)
  · replace F := F.1 q22
    refine x_iload hM d_Ki_settle_154 6 rfl ?_
    refine x_iconst (v := 1) hM d_Ki_settle_156 (by decide) ?_
    refine x_icmp_le (tgt := 182) hM d_Ki_settle_157 (by decide) (fun q11 => ?_) (fun q11 => ?_)
    · replace F := F.1 q11
      exact x_return hM d_Ki_settle_182 rfl (y_end V hSt (F _))
    · replace F := F.2 q11
      refine x_aload_n hM d_Ki_settle_160 rfl 0 rfl ?_
      refine x_aload_n hM d_Ki_settle_161 rfl 0 rfl ?_
      refine y_getr hG hM V ck_Ki 6 (Nat.le_of_ble_eq_true rfl) rfl rfl w_331 rfl d_Ki_settle_162 (7, 0, 0) (34, 6, 0) rfl rfl rfl ?_
      refine x_iload_n hM d_Ki_settle_165 rfl 2 rfl ?_
      obtain ⟨c2, F⟩ := F
      refine y_iaload hG hM V d_Ki_settle_166 (34, 6, 0) rfl rfl c2 ?_
      refine x_iload_n hM d_Ki_settle_167 rfl 3 rfl ?_
      refine x_iload hM d_Ki_settle_168 6 rfl ?_
      refine x_callV hG hM (r' := r_Ki_sortByGroup) (ci := 9) [.int (iR ρ (34, 6, 0) (Int32.toNatClampNeg v2)), .int v3, .int v6] rfl rfl (Nat.le_of_ble_eq_true rfl) yk_Ki_sortByGroup ⟨Nat.le_of_ble_eq_true rfl, Nat.le_of_ble_eq_true rfl⟩ w_741 w_743 ws_Ki_sortByGroup rfl rfl (Nat.le_of_ble_eq_true rfl) d_Ki_settle_170 (by rw [vT V rfl]; rfl) (sem_mono (F _ _ V) ?_)
      intro u4 h F
      obtain ⟨ad10, ρ3, V, hs5, F⟩ := F
      obtain ⟨rfl, F⟩ := F
      have hs5 := (St_eq hs5).symm
      subst hs5
      refine x_aload_n hM d_Ki_settle_173 rfl 0 rfl ?_
      refine x_aload_n hM d_Ki_settle_174 rfl 1 rfl ?_
      refine x_iload_n hM d_Ki_settle_175 rfl 2 rfl ?_
      refine x_iload_n hM d_Ki_settle_176 rfl 3 rfl ?_
      refine x_iload hM d_Ki_settle_177 6 rfl ?_
      refine x_callV hG hM (r' := r_Ki_divide) (ci := 9) [.ref (ad (1, 0, 0)), .int v2, .int v3, .int v6] rfl rfl (Nat.le_of_ble_eq_true rfl) yk_Ki_divide ⟨Nat.le_of_ble_eq_true rfl, Nat.le_of_ble_eq_true rfl⟩ w_745 w_747 ws_Ki_divide rfl rfl (Nat.le_of_ble_eq_true rfl) d_Ki_settle_179 (by rw [vT V rfl]; rfl) (sem_mono (F _ _ V) ?_)
      intro u7 h F
      obtain ⟨ad9, ρ6, V, hs8, F⟩ := F
      obtain ⟨rfl, F⟩ := F
      have hs8 := (St_eq hs8).symm
      subst hs8
      exact x_return hM d_Ki_settle_182 rfl (y_end V hSt (F _))
  · replace F := F.2 q22
    refine x_iload hM d_Ki_settle_117 5 rfl ?_
    refine x_iload hM d_Ki_settle_119 7 rfl ?_
    refine x_ishr hM d_Ki_settle_121 ?_
    refine x_iconst (v := 1) hM d_Ki_settle_122 (by decide) ?_
    refine x_iand hM d_Ki_settle_123 ?_
    refine x_if_eq (tgt := 148) hM d_Ki_settle_124 (by decide) (fun q21 => ?_) (fun q21 => ?_)
    · replace F := F.1 q21
      refine x_iinc (v := (v7 + 1)) (lv2 := [(7, .int (v7 + 1)), (0, .ref (ad (7, 0, 0))), (1, .ref (ad (1, 0, 0))), (2, .int v2), (3, .int v3), (4, .int v4), (5, .int v5), (6, .int v6)]) hM d_Ki_settle_148 (j := 7) rfl rfl (Nat.le_of_ble_eq_true rfl) rfl ?_
      refine x_goto (tgt := 108) hM d_Ki_settle_151 (by decide) ?_
      refine x_sub [1, 2, 3, 4, 5, 6, 7, 0] rfl ?_
      exact F _ _ hSt V
    · replace F := F.2 q21
      refine x_aload_n hM d_Ki_settle_127 rfl 0 rfl ?_
      refine x_aload_n hM d_Ki_settle_128 rfl 1 rfl ?_
      refine y_getr hG hM V ck_Wo 5 (Nat.le_of_ble_eq_true rfl) rfl rfl w_147 rfl d_Ki_settle_129 (1, 0, 0) (30, 5, 0) rfl rfl rfl ?_
      refine x_iload hM d_Ki_settle_132 7 rfl ?_
      obtain ⟨c14, F⟩ := F
      refine y_acts hG hM V d_Ki_settle_134 c14 ?_
      refine x_aload_n hM d_Ki_settle_135 rfl 0 rfl ?_
      refine y_getr hG hM V ck_Ki 6 (Nat.le_of_ble_eq_true rfl) rfl rfl w_331 rfl d_Ki_settle_136 (7, 0, 0) (34, 6, 0) rfl rfl rfl ?_
      refine x_iload_n hM d_Ki_settle_139 rfl 2 rfl ?_
      obtain ⟨c15, F⟩ := F
      refine y_iaload hG hM V d_Ki_settle_140 (34, 6, 0) rfl rfl c15 ?_
      refine x_iload hM d_Ki_settle_141 4 rfl ?_
      refine x_callV hG hM (r' := r_Ki_regroup) (ci := 9) [.ref (ad (20, (Int32.toNatClampNeg v7), 0)), .int (iR ρ (34, 6, 0) (Int32.toNatClampNeg v2)), .int v4] rfl rfl (Nat.le_of_ble_eq_true rfl) yk_Ki_regroup ⟨Nat.le_of_ble_eq_true rfl, Nat.le_of_ble_eq_true rfl⟩ w_723 w_725 ws_Ki_regroup rfl rfl (Nat.le_of_ble_eq_true rfl) d_Ki_settle_143 (by rw [vT V rfl]; rfl) (sem_mono (F _ _ V) ?_)
      intro u17 h F
      obtain ⟨ad20, ρ16, V, hs18, F⟩ := F
      obtain ⟨x19, rfl, F⟩ := F
      have hs18 := (St_eq hs18).symm
      subst hs18
      refine x_istore (lv2 := [(6, .int x19), (0, .ref (ad (7, 0, 0))), (1, .ref (ad (1, 0, 0))), (2, .int v2), (3, .int v3), (4, .int v4), (5, .int v5), (7, .int v7)]) hM d_Ki_settle_146 (Nat.le_of_ble_eq_true rfl) rfl ?_
      refine x_iinc (v := (v7 + 1)) (lv2 := [(7, .int (v7 + 1)), (6, .int x19), (0, .ref (ad (7, 0, 0))), (1, .ref (ad (1, 0, 0))), (2, .int v2), (3, .int v3), (4, .int v4), (5, .int v5)]) hM d_Ki_settle_148 (j := 7) rfl rfl (Nat.le_of_ble_eq_true rfl) rfl ?_
      refine x_goto (tgt := 108) hM d_Ki_settle_151 (by decide) ?_
      refine x_sub [2, 3, 4, 5, 6, 7, 1, 0] rfl ?_
      exact F _ _ hSt V
