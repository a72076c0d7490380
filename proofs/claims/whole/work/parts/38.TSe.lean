set_option maxRecDepth 100000 in
set_option maxHeartbeats 4000000 in
theorem T_Se_wins_0 {G : Gc} {M : Mc} {Q : State → Prop} {ad0 : Ro → Nat} {K : (Ro → Nat) → Option Value → Rs → Prop} (hG : gok G) (hM : mok G M r_Se_wins Q (KV G [35] ad0 K)) (v3 : Int32) (v4 : Int32) (v5 : Int32) (v6 : Int32) (ρ : Rs) (F : ∀ ρ1 : Rs, ρ1 = pI ρ (8, 0, 0) 3 v5 → (∀ ρ2 : Rs, ρ2 = pI ρ1 (8, 0, 0) 4 v6 → (semV G r_Se_begin [35] (fun ad => [.ref (ad (8, 0, 0)), .int (iR ρ2 (1, 0, 0) 1)]) ρ2 (fun ad u4 ρ3 => u4 = none ∧ (semV G r_Se_visit [] (fun ad => [.ref (ad (8, 0, 0)), .ref (ad (1, 0, 0)), .ref (ad (33, 0, 0)), .int v3]) ρ3 (fun ad u8 ρ7 => ∃ x10 : Int32, u8 = some (.int x10) ∧ ((x10 = 0 → (Y G [35] ad0 M Q 35 (fun ad => [(0, .ref (ad (8, 0, 0))), (1, .ref (ad (1, 0, 0))), (2, .ref (ad (33, 0, 0))), (4, .int v4), (7, .int 0)]) (fun ad => []) ρ7)) ∧ (¬ x10 = 0 → (∀ ad, K ad (some (.int 1)) ρ7))))))))) : Y G [35] ad0 M Q 0 (fun ad => [(0, .ref (ad (8, 0, 0))), (1, .ref (ad (1, 0, 0))), (2, .ref (ad (33, 0, 0))), (3, .int v3), (4, .int v4), (5, .int v5), (6, .int v6)]) (fun ad => []) ρ := by
  intro ad h hSt V
  show X G M Q 0 [(0, .ref (ad (8, 0, 0))), (1, .ref (ad (1, 0, 0))), (2, .ref (ad (33, 0, 0))), (3, .int v3), (4, .int v4), (5, .int v5), (6, .int v6)] [] h
  refine x_aload_n hM d_Se_wins_0 rfl 0 rfl ?_
  refine x_iload hM d_Se_wins_1 5 rfl ?_
  obtain ⟨ρ1, eρ1⟩ : ∃ z : Rs, z = pI ρ (8, 0, 0) 3 v5 := ⟨_, rfl⟩
  replace F := F ρ1 eρ1
  refine y_puti hG hM V ck_Se 3 (Nat.le_of_ble_eq_true rfl) rfl rfl w_389 rfl d_Se_wins_3 rfl (8, 0, 0) rfl rfl (fun h V => ?_)
  rw [← eρ1] at V
  clear eρ1
  refine x_aload_n hM d_Se_wins_6 rfl 0 rfl ?_
  refine x_iload hM d_Se_wins_7 6 rfl ?_
  obtain ⟨ρ2, eρ2⟩ : ∃ z : Rs, z = pI ρ1 (8, 0, 0) 4 v6 := ⟨_, rfl⟩
  replace F := F ρ2 eρ2
  refine y_puti hG hM V ck_Se 4 (Nat.le_of_ble_eq_true rfl) rfl rfl w_390 rfl d_Se_wins_9 rfl (8, 0, 0) rfl rfl (fun h V => ?_)
  rw [← eρ2] at V
  clear eρ2
  refine x_aload_n hM d_Se_wins_12 rfl 0 rfl ?_
  refine x_aload_n hM d_Se_wins_13 rfl 1 rfl ?_
  refine y_geti hG hM V ck_Wo 1 (Nat.le_of_ble_eq_true rfl) rfl rfl w_129 rfl d_Se_wins_14 (1, 0, 0) rfl rfl ?_
  refine x_callV hG hM (r' := r_Se_begin) (ci := 10) [.int (iR ρ2 (1, 0, 0) 1)] rfl rfl (Nat.le_of_ble_eq_true rfl) yk_Se_begin ⟨Nat.le_of_ble_eq_true rfl, Nat.le_of_ble_eq_true rfl⟩ w_817 w_819 ws_Se_begin rfl rfl (Nat.le_of_ble_eq_true rfl) d_Se_wins_17 (by rw [vT V rfl]; rfl) (sem_mono (F _ _ V) ?_)
  intro u4 h F
  obtain ⟨ad6, ρ3, V, hs5, F⟩ := F
  obtain ⟨rfl, F⟩ := F
  have ea0 : ad6 (8, 0, 0) = ad (8, 0, 0) := hs5 _ (Or.inr rfl)
  have ea1 : ad6 (1, 0, 0) = ad (1, 0, 0) := hs5 _ (Or.inr rfl)
  have ea2 : ad6 (33, 0, 0) = ad (33, 0, 0) := hs5 _ (Or.inl rfl)
  rw [← ea0, ← ea1, ← ea2]
  replace hSt := St_tr hSt (St_mono (mv' := [35]) (by decide) hs5)
  refine x_aload_n hM d_Se_wins_20 rfl 0 rfl ?_
  refine x_aload_n hM d_Se_wins_21 rfl 1 rfl ?_
  refine x_aload_n hM d_Se_wins_22 rfl 2 rfl ?_
  refine x_iload_n hM d_Se_wins_23 rfl 3 rfl ?_
  refine x_callV hG hM (r' := r_Se_visit) (ci := 10) [.ref (ad6 (1, 0, 0)), .ref (ad6 (33, 0, 0)), .int v3] rfl rfl (Nat.le_of_ble_eq_true rfl) yk_Se_visit ⟨Nat.le_of_ble_eq_true rfl, Nat.le_of_ble_eq_true rfl⟩ w_823 w_825 ws_Se_visit rfl rfl (Nat.le_of_ble_eq_true rfl) d_Se_wins_24 (by rw [vT V rfl]; rfl) (sem_mono (F _ _ V) ?_)
  intro u8 h F
  obtain ⟨ad12, ρ7, V, hs9, F⟩ := F
  obtain ⟨x10, rfl, F⟩ := F
  have hs9 := (St_eq hs9).symm
  subst hs9
  refine x_if_eq (tgt := 32) hM d_Se_wins_27 (by decide) (fun q11 => ?_) (fun q11 => ?_)
  · replace F := F.1 q11
    refine x_iconst (v := 0) hM d_Se_wins_32 (by decide) ?_
    refine x_istore (lv2 := [(7, .int 0), (0, .ref (ad6 (8, 0, 0))), (1, .ref (ad6 (1, 0, 0))), (2, .ref (ad6 (33, 0, 0))), (3, .int v3), (4, .int v4), (5, .int v5), (6, .int v6)]) hM d_Se_wins_33 (Nat.le_of_ble_eq_true rfl) rfl ?_
    refine x_sub [1, 2, 3, 5, 0] rfl ?_
    exact F _ _ hSt V
  · replace F := F.2 q11
    refine x_iconst (v := 1) hM d_Se_wins_30 (by decide) ?_
    exact x_zreturn hM d_Se_wins_31 rfl (Or.inr rfl) (y_end V hSt (F _))
set_option maxRecDepth 100000 in
set_option maxHeartbeats 4000000 in
theorem T_Se_wins_35 {G : Gc} {M : Mc} {Q : State → Prop} {ad0 : Ro → Nat} {K : (Ro → Nat) → Option Value → Rs → Prop} (hG : gok G) (hM : mok G M r_Se_wins Q (KV G [35] ad0 K)) (v4 : Int32) (v7 : Int32) (ρ : Rs) (F : ((iR ρ (8, 0, 0) 2) ≤ v7 → (∀ ad, K ad (some (.int 0)) ρ)) ∧ (¬ (iR ρ (8, 0, 0) 2) ≤ v7 → (((iR ρ (1, 0, 0) 1) ≤ v7 → (∀ ad, K ad (some (.int 0)) ρ)) ∧ (¬ (iR ρ (1, 0, 0) 1) ≤ v7 → (Y G [35] ad0 M Q 56 (fun ad => [(0, .ref (ad (8, 0, 0))), (1, .ref (ad (1, 0, 0))), (2, .ref (ad (33, 0, 0))), (4, .int v4), (7, .int v7), (8, .int 0)]) (fun ad => []) ρ))))) : Y G [35] ad0 M Q 35 (fun ad => [(0, .ref (ad (8, 0, 0))), (1, .ref (ad (1, 0, 0))), (2, .ref (ad (33, 0, 0))), (4, .int v4), (7, .int v7)]) (fun ad => []) ρ := by
  intro ad h hSt V
  show X G M Q 35 [(0, .ref (ad (8, 0, 0))), (1, .ref (ad (1, 0, 0))), (2, .ref (ad (33, 0, 0))), (4, .int v4), (7, .int v7)] [] h
  refine x_iload hM d_Se_wins_35 4 rfl ?_
  refine x_aload_n hM d_Se_wins_37 rfl 0 rfl ?_
  refine y_geti hG hM V ck_Se 2 (Nat.le_of_ble_eq_true rfl) rfl rfl w_388 rfl d_Se_wins_38 (8, 0, 0) rfl rfl ?_
  refine x_icmp_ge (tgt := 160) hM d_Se_wins_41 (by decide) (fun q2 => ?_) (fun q2 => ?_)
  · replace F := F.1 q2
    refine x_iconst (v := 0) hM d_Se_wins_160 (by decide) ?_
    exact x_zreturn hM d_Se_wins_161 rfl (Or.inl rfl) (y_end V hSt (F _))
  · replace F := F.2 q2
    refine x_iload hM d_Se_wins_44 4 rfl ?_
    refine x_aload_n hM d_Se_wins_46 rfl 1 rfl ?_
    refine y_geti hG hM V ck_Wo 1 (Nat.le_of_ble_eq_true rfl) rfl rfl w_129 rfl d_Se_wins_47 (1, 0, 0) rfl rfl ?_
    refine x_icmp_ge (tgt := 160) hM d_Se_wins_50 (by decide) (fun q1 => ?_) (fun q1 => ?_)
    · replace F := F.1 q1
      refine x_iconst (v := 0) hM d_Se_wins_160 (by decide) ?_
      exact x_zreturn hM d_Se_wins_161 rfl (Or.inl rfl) (y_end V hSt (F _))
    · replace F := F.2 q1
      refine x_iconst (v := 0) hM d_Se_wins_53 (by decide) ?_
      refine x_istore (lv2 := [(8, .int 0), (0, .ref (ad (8, 0, 0))), (1, .ref (ad (1, 0, 0))), (2, .ref (ad (33, 0, 0))), (4, .int v4), (7, .int v7)]) hM d_Se_wins_54 (Nat.le_of_ble_eq_true rfl) rfl ?_
      refine x_sub [1, 2, 3, 4, 5, 0] rfl ?_
      exact F _ _ hSt V
set_option maxRecDepth 100000 in
set_option maxHeartbeats 4000000 in
theorem T_Se_wins_56 {G : Gc} {M : Mc} {Q : State → Prop} {ad0 : Ro → Nat} {K : (Ro → Nat) → Option Value → Rs → Prop} (hG : gok G) (hM : mok G M r_Se_wins Q (KV G [35] ad0 K)) (v4 : Int32) (v7 : Int32) (v8 : Int32) (ρ : Rs) (F : ((iR ρ (1, 0, 0) 2) ≤ v8 → (Y G [35] ad0 M Q 35 (fun ad => [(0, .ref (ad (8, 0, 0))), (1, .ref (ad (1, 0, 0))), (2, .ref (ad (33, 0, 0))), (4, .int v4), (7, .int (v7 + 1))]) (fun ad => []) ρ)) ∧ (¬ (iR ρ (1, 0, 0) 2) ≤ v8 → (vp_in v8 12 ∧ ((v8 = v4 → (Y G [35] ad0 M Q 56 (fun ad => [(0, .ref (ad (8, 0, 0))), (1, .ref (ad (1, 0, 0))), (2, .ref (ad (33, 0, 0))), (4, .int v4), (7, .int v7), (8, .int (v8 + 1))]) (fun ad => []) ρ)) ∧ (¬ v8 = v4 → (vp_in v7 (nR ρ (35, 1, 0)) ∧ (semV G r_Ac_canBeDone [] (fun ad => [.ref (ad (20, (Int32.toNatClampNeg v8), 0)), .int (iR ρ (35, 1, 0) (Int32.toNatClampNeg v7))]) ρ (fun ad u4 ρ3 => ∃ x6 : Int32, u4 = some (.int x6) ∧ ((x6 = 0 → (Y G [35] ad0 M Q 56 (fun ad => [(0, .ref (ad (8, 0, 0))), (1, .ref (ad (1, 0, 0))), (2, .ref (ad (33, 0, 0))), (4, .int v4), (7, .int v7), (8, .int (v8 + 1))]) (fun ad => []) ρ3)) ∧ (¬ x6 = 0 → (Y G [35] ad0 M Q 102 (fun ad => [(0, .ref (ad (8, 0, 0))), (1, .ref (ad (1, 0, 0))), (2, .ref (ad (33, 0, 0))), (4, .int v4), (7, .int v7), (8, .int v8), (9, .ref (ad (20, (Int32.toNatClampNeg v8), 0))), (10, .int 0)]) (fun ad => []) ρ3))))))))))) : Y G [35] ad0 M Q 56 (fun ad => [(0, .ref (ad (8, 0, 0))), (1, .ref (ad (1, 0, 0))), (2, .ref (ad (33, 0, 0))), (4, .int v4), (7, .int v7), (8, .int v8)]) (fun ad => []) ρ := by
  intro ad h hSt V
  show X G M Q 56 [(0, .ref (ad (8, 0, 0))), (1, .ref (ad (1, 0, 0))), (2, .ref (ad (33, 0, 0))), (4, .int v4), (7, .int v7), (8, .int v8)] [] h
  refine x_iload hM d_Se_wins_56 5 rfl ?_
  refine x_aload_n hM d_Se_wins_58 rfl 1 rfl ?_
  refine y_geti hG hM V ck_Wo 2 (Nat.le_of_ble_eq_true rfl) rfl rfl w_134 rfl d_Se_wins_59 (1, 0, 0) rfl rfl ?_
  refine x_icmp_ge (tgt := 154) hM d_Se_wins_62 (by decide) (fun q10 => ?_) (fun q10 => ?_)
  · replace F := F.1 q10
    refine x_iinc (v := (v7 + 1)) (lv2 := [(7, .int (v7 + 1)), (0, .ref (ad (8, 0, 0))), (1, .ref (ad (1, 0, 0))), (2, .ref (ad (33, 0, 0))), (4, .int v4), (8, .int v8)]) hM d_Se_wins_154 (j := 4) rfl rfl (Nat.le_of_ble_eq_true rfl) rfl ?_
    refine x_goto (tgt := 35) hM d_Se_wins_157 (by decide) ?_
    refine x_sub [1, 2, 3, 4, 0] rfl ?_
    exact F _ _ hSt V
  · replace F := F.2 q10
    refine x_aload_n hM d_Se_wins_65 rfl 1 rfl ?_
    refine y_getr hG hM V ck_Wo 5 (Nat.le_of_ble_eq_true rfl) rfl rfl w_144 rfl d_Se_wins_66 (1, 0, 0) (30, 5, 0) rfl rfl rfl ?_
    refine x_iload hM d_Se_wins_69 5 rfl ?_
    obtain ⟨c1, F⟩ := F
    refine y_acts hG hM V d_Se_wins_71 c1 ?_
    refine x_astore (lv2 := [(9, .ref (ad (20, (Int32.toNatClampNeg v8), 0))), (0, .ref (ad (8, 0, 0))), (1, .ref (ad (1, 0, 0))), (2, .ref (ad (33, 0, 0))), (4, .int v4), (7, .int v7), (8, .int v8)]) hM d_Se_wins_72 (Nat.le_of_ble_eq_true rfl) rfl ?_
    refine x_iload hM d_Se_wins_74 6 rfl ?_
    refine x_iload hM d_Se_wins_76 4 rfl ?_
    refine x_icmp_eq (tgt := 148) hM d_Se_wins_78 (by decide) (fun q9 => ?_) (fun q9 => ?_)
    · replace F := F.1 q9
      refine x_iinc (v := (v8 + 1)) (lv2 := [(8, .int (v8 + 1)), (9, .ref (ad (20, (Int32.toNatClampNeg v8), 0))), (0, .ref (ad (8, 0, 0))), (1, .ref (ad (1, 0, 0))), (2, .ref (ad (33, 0, 0))), (4, .int v4), (7, .int v7)]) hM d_Se_wins_148 (j := 6) rfl rfl (Nat.le_of_ble_eq_true rfl) rfl ?_
      refine x_goto (tgt := 56) hM d_Se_wins_151 (by decide) ?_
      refine x_sub [2, 3, 4, 5, 6, 0] rfl ?_
      exact F _ _ hSt V
    · replace F := F.2 q9
      refine x_aload hM d_Se_wins_81 0 rfl ?_
      refine x_aload_n hM d_Se_wins_83 rfl 1 rfl ?_
      refine y_getr hG hM V ck_Se 1 (Nat.le_of_ble_eq_true rfl) rfl rfl w_387 rfl d_Se_wins_84 (8, 0, 0) (35, 1, 0) rfl rfl rfl ?_
      refine x_iload hM d_Se_wins_87 5 rfl ?_
      obtain ⟨c2, F⟩ := F
      refine y_iaload hG hM V d_Se_wins_89 (35, 1, 0) rfl rfl c2 ?_
      refine x_callV hG hM (r' := r_Ac_canBeDone) (ci := 2) [.int (iR ρ (35, 1, 0) (Int32.toNatClampNeg v7))] rfl rfl (Nat.le_of_ble_eq_true rfl) yk_Ac_canBeDone ⟨Nat.le_of_ble_eq_true rfl, Nat.le_of_ble_eq_true rfl⟩ w_828 w_631 w_632 rfl rfl (Nat.le_of_ble_eq_true rfl) d_Se_wins_90 (by rw [vT V (ok_ac (vp_lt c1))]; rfl) (sem_mono (F _ _ V) ?_)
      intro u4 h F
      obtain ⟨ad8, ρ3, V, hs5, F⟩ := F
      obtain ⟨x6, rfl, F⟩ := F
      have hs5 := (St_eq hs5).symm
      subst hs5
      refine x_if_ne (tgt := 99) hM d_Se_wins_93 (by decide) (fun q7 => ?_) (fun q7 => ?_)
      · replace F := F.2 q7
        refine x_iconst (v := 0) hM d_Se_wins_99 (by decide) ?_
        refine x_istore (lv2 := [(10, .int 0), (9, .ref (ad (20, (Int32.toNatClampNeg v8), 0))), (0, .ref (ad (8, 0, 0))), (1, .ref (ad (1, 0, 0))), (2, .ref (ad (33, 0, 0))), (4, .int v4), (7, .int v7), (8, .int v8)]) hM d_Se_wins_100 (Nat.le_of_ble_eq_true rfl) rfl ?_
        refine x_sub [2, 3, 4, 5, 6, 7, 1, 0] rfl ?_
        exact F _ _ hSt V
      · replace F := F.1 q7
        refine x_goto (tgt := 148) hM d_Se_wins_96 (by decide) ?_
        refine x_iinc (v := (v8 + 1)) (lv2 := [(8, .int (v8 + 1)), (9, .ref (ad (20, (Int32.toNatClampNeg v8), 0))), (0, .ref (ad (8, 0, 0))), (1, .ref (ad (1, 0, 0))), (2, .ref (ad (33, 0, 0))), (4, .int v4), (7, .int v7)]) hM d_Se_wins_148 (j := 6) rfl rfl (Nat.le_of_ble_eq_true rfl) rfl ?_
        refine x_goto (tgt := 56) hM d_Se_wins_151 (by decide) ?_
        refine x_sub [2, 3, 4, 5, 6, 0] rfl ?_
        exact F _ _ hSt V
set_option maxRecDepth 100000 in
set_option maxHeartbeats 4000000 in
theorem T_Se_wins_102 {G : Gc} {M : Mc} {Q : State → Prop} {ad0 : Ro → Nat} {K : (Ro → Nat) → Option Value → Rs → Prop} (hG : gok G) (hM : mok G M r_Se_wins Q (KV G [35] ad0 K)) (v4 : Int32) (v7 : Int32) (v8 : Int32) (a9 : Nat) (ha9 : a9 < 12) (v10 : Int32) (ρ : Rs) (F : ((iR ρ (20, a9, 0) 2) ≤ v10 → (Y G [35] ad0 M Q 56 (fun ad => [(0, .ref (ad (8, 0, 0))), (1, .ref (ad (1, 0, 0))), (2, .ref (ad (33, 0, 0))), (4, .int v4), (7, .int v7), (8, .int (v8 + 1))]) (fun ad => []) ρ)) ∧ (¬ (iR ρ (20, a9, 0) 2) ≤ v10 → (vp_in v10 3 ∧ (vp_in v7 (nR ρ (35, 1, 0)) ∧ (vp_in (iR ρ (35, 1, 0) (Int32.toNatClampNeg v7)) (nR ρ (23, a9, (Int32.toNatClampNeg v10))) ∧ (semV G r_Se_visit [] (fun ad => [.ref (ad (8, 0, 0)), .ref (ad (1, 0, 0)), .ref (ad (33, 0, 0)), .int (iR ρ (23, a9, (Int32.toNatClampNeg v10)) (Int32.toNatClampNeg (iR ρ (35, 1, 0) (Int32.toNatClampNeg v7))))]) ρ (fun ad u5 ρ4 => ∃ x7 : Int32, u5 = some (.int x7) ∧ ((x7 = 0 → (Y G [35] ad0 M Q 102 (fun ad => [(0, .ref (ad (8, 0, 0))), (1, .ref (ad (1, 0, 0))), (2, .ref (ad (33, 0, 0))), (4, .int v4), (7, .int v7), (8, .int v8), (9, .ref (ad (20, a9, 0))), (10, .int (v10 + 1))]) (fun ad => []) ρ4)) ∧ (¬ x7 = 0 → (∀ ad, K ad (some (.int 1)) ρ4)))))))))) : Y G [35] ad0 M Q 102 (fun ad => [(0, .ref (ad (8, 0, 0))), (1, .ref (ad (1, 0, 0))), (2, .ref (ad (33, 0, 0))), (4, .int v4), (7, .int v7), (8, .int v8), (9, .ref (ad (20, a9, 0))), (10, .int v10)]) (fun ad => []) ρ := by
  intro ad h hSt V
  show X G M Q 102 [(0, .ref (ad (8, 0, 0))), (1, .ref (ad (1, 0, 0))), (2, .ref (ad (33, 0, 0))), (4, .int v4), (7, .int v7), (8, .int v8), (9, .ref (ad (20, a9, 0))), (10, .int v10)] [] h
  refine x_iload hM d_Se_wins_102 7 rfl ?_
  refine x_aload hM d_Se_wins_104 6 rfl ?_
  refine y_geti hG hM V ck_Ac 2 (Nat.le_of_ble_eq_true rfl) rfl rfl w_105 rfl d_Se_wins_106 (20, a9, 0) (ok_ac ha9) rfl ?_
  refine x_icmp_ge (tgt := 148) hM d_Se_wins_109 (by decide) (fun q10 => ?_) (fun q10 => ?_)
  · replace F := F.1 q10
    refine x_iinc (v := (v8 + 1)) (lv2 := [(8, .int (v8 + 1)), (0, .ref (ad (8, 0, 0))), (1, .ref (ad (1, 0, 0))), (2, .ref (ad (33, 0, 0))), (4, .int v4), (7, .int v7), (9, .ref (ad (20, a9, 0))), (10, .int v10)]) hM d_Se_wins_148 (j := 5) rfl rfl (Nat.le_of_ble_eq_true rfl) rfl ?_
    refine x_goto (tgt := 56) hM d_Se_wins_151 (by decide) ?_
    refine x_sub [1, 2, 3, 4, 5, 0] rfl ?_
    exact F _ _ hSt V
  · replace F := F.2 q10
    refine x_aload_n hM d_Se_wins_112 rfl 0 rfl ?_
    refine x_aload_n hM d_Se_wins_113 rfl 1 rfl ?_
    refine x_aload_n hM d_Se_wins_114 rfl 2 rfl ?_
    refine x_aload hM d_Se_wins_115 6 rfl ?_
    refine y_getr hG hM V ck_Ac 1 (Nat.le_of_ble_eq_true rfl) rfl rfl w_97 rfl d_Se_wins_117 (20, a9, 0) (21, a9, 0) (ok_ac ha9) rfl rfl ?_
    refine x_iload hM d_Se_wins_120 7 rfl ?_
    obtain ⟨c1, F⟩ := F
    refine y_outs hG hM V d_Se_wins_122 ha9 c1 ?_
    refine y_getr hG hM V ck_Ou 1 (Nat.le_of_ble_eq_true rfl) rfl rfl w_77 rfl d_Se_wins_123 (22, a9, (Int32.toNatClampNeg v10)) (23, a9, (Int32.toNatClampNeg v10)) (ok_ou ha9 (vp_lt c1)) rfl rfl ?_
    refine x_aload_n hM d_Se_wins_126 rfl 0 rfl ?_
    refine y_getr hG hM V ck_Se 1 (Nat.le_of_ble_eq_true rfl) rfl rfl w_387 rfl d_Se_wins_127 (8, 0, 0) (35, 1, 0) rfl rfl rfl ?_
    refine x_iload hM d_Se_wins_130 4 rfl ?_
    obtain ⟨c2, F⟩ := F
    refine y_iaload hG hM V d_Se_wins_132 (35, 1, 0) rfl rfl c2 ?_
    obtain ⟨c3, F⟩ := F
    refine y_iaload hG hM V d_Se_wins_133 (23, a9, (Int32.toNatClampNeg v10)) (ok_to ha9 (vp_lt c1)) rfl c3 ?_
    refine x_callV hG hM (r' := r_Se_visit) (ci := 10) [.ref (ad (1, 0, 0)), .ref (ad (33, 0, 0)), .int (iR ρ (23, a9, (Int32.toNatClampNeg v10)) (Int32.toNatClampNeg (iR ρ (35, 1, 0) (Int32.toNatClampNeg v7))))] rfl rfl (Nat.le_of_ble_eq_true rfl) yk_Se_visit ⟨Nat.le_of_ble_eq_true rfl, Nat.le_of_ble_eq_true rfl⟩ w_823 w_825 ws_Se_visit rfl rfl (Nat.le_of_ble_eq_true rfl) d_Se_wins_134 (by rw [vT V rfl]; rfl) (sem_mono (F _ _ V) ?_)
    intro u5 h F
    obtain ⟨ad9, ρ4, V, hs6, F⟩ := F
    obtain ⟨x7, rfl, F⟩ := F
    have hs6 := (St_eq hs6).symm
    subst hs6
    refine x_if_eq (tgt := 142) hM d_Se_wins_137 (by decide) (fun q8 => ?_) (fun q8 => ?_)
    · replace F := F.1 q8
      refine x_iinc (v := (v10 + 1)) (lv2 := [(10, .int (v10 + 1)), (0, .ref (ad (8, 0, 0))), (1, .ref (ad (1, 0, 0))), (2, .ref (ad (33, 0, 0))), (4, .int v4), (7, .int v7), (8, .int v8), (9, .ref (ad (20, a9, 0)))]) hM d_Se_wins_142 (j := 7) rfl rfl (Nat.le_of_ble_eq_true rfl) rfl ?_
      refine x_goto (tgt := 102) hM d_Se_wins_145 (by decide) ?_
      refine x_sub [1, 2, 3, 4, 5, 6, 7, 0] rfl ?_
      exact F _ _ hSt V
    · replace F := F.2 q8
      refine x_iconst (v := 1) hM d_Se_wins_140 (by decide) ?_
      exact x_zreturn hM d_Se_wins_141 rfl (Or.inr rfl) (y_end V hSt (F _))
set_option maxRecDepth 100000 in
set_option maxHeartbeats 4000000 in
theorem T_Se_begin_0 {G : Gc} {M : Mc} {Q : State → Prop} {ad0 : Ro → Nat} {K : (Ro → Nat) → Option Value → Rs → Prop} (hG : gok G) (hM : mok G M r_Se_begin Q (KV G [35] ad0 K)) (v1 : Int32) (ρ : Rs) (F : ∃ m2 : Nat, v1 = nI m2 ∧ m2 ≤ 4096 ∧ (∀ ρ1 : Rs, ρ1 = rowR ρ (35, 0, 0) m2 → (∃ m8 : Nat, v1 = nI m8 ∧ m8 ≤ 4096 ∧ (∀ ρ7 : Rs, ρ7 = rowR ρ1 (35, 1, 0) m8 → (∀ ρ13 : Rs, ρ13 = pI ρ7 (8, 0, 0) 2 0 → (Y G [35] ad0 M Q 31 (fun ad => [(0, .ref (ad (8, 0, 0))), (1, .int v1), (2, .int 0)]) (fun ad => []) ρ13)))))) : Y G [35] ad0 M Q 0 (fun ad => [(0, .ref (ad (8, 0, 0))), (1, .int v1)]) (fun ad => []) ρ := by
  intro ad h hSt V
  show X G M Q 0 [(0, .ref (ad (8, 0, 0))), (1, .int v1)] [] h
  refine x_aload_n hM d_Se_begin_0 rfl 0 rfl ?_
  refine x_aload_n hM d_Se_begin_1 rfl 0 rfl ?_
  refine y_getr hG hM V ck_Se 0 (Nat.le_of_ble_eq_true rfl) rfl rfl w_386 rfl d_Se_begin_2 (8, 0, 0) (35, 0, 0) rfl rfl rfl ?_
  refine x_iload_n hM d_Se_begin_5 rfl 1 rfl ?_
  obtain ⟨m2, c3, c4, F⟩ := F
  obtain ⟨ρ1, eρ1⟩ : ∃ z : Rs, z = rowR ρ (35, 0, 0) m2 := ⟨_, rfl⟩
  replace F := F ρ1 eρ1
  refine y_mark hG hM V rfl ⟨Nat.le_of_ble_eq_true rfl, Nat.le_of_ble_eq_true rfl⟩ w_821 w_647 d_Se_begin_6 d_Se_begin_9 ck_Se (k := 0) (Nat.le_of_ble_eq_true rfl) (Or.inr ⟨_, rfl⟩) w_386 rfl rfl (Nat.le_of_ble_eq_true rfl) (8, 0, 0) (35, 0, 0) rfl rfl rfl (by decide) rfl rfl rfl c3 c4 (fun ad6 h hs5 V => ?_)
  rw [← eρ1] at V
  clear eρ1
  have ea0 : ad6 (8, 0, 0) = ad (8, 0, 0) := hs5 _ (Or.inr rfl)
  rw [← ea0]
  replace hSt := St_tr hSt (St_mono (mv' := [35]) (by decide) hs5)
  refine x_aload_n hM d_Se_begin_12 rfl 0 rfl ?_
  refine x_aload_n hM d_Se_begin_13 rfl 0 rfl ?_
  refine y_getr hG hM V ck_Se 1 (Nat.le_of_ble_eq_true rfl) rfl rfl w_387 rfl d_Se_begin_14 (8, 0, 0) (35, 1, 0) rfl rfl rfl ?_
  refine x_iload_n hM d_Se_begin_17 rfl 1 rfl ?_
  obtain ⟨m8, c9, c10, F⟩ := F
  obtain ⟨ρ7, eρ7⟩ : ∃ z : Rs, z = rowR ρ1 (35, 1, 0) m8 := ⟨_, rfl⟩
  replace F := F ρ7 eρ7
  refine y_row hG hM V rfl ⟨Nat.le_of_ble_eq_true rfl, Nat.le_of_ble_eq_true rfl⟩ w_822 w_586 d_Se_begin_18 d_Se_begin_21 ck_Se (k := 1) (Nat.le_of_ble_eq_true rfl) (Or.inr ⟨_, rfl⟩) w_387 rfl rfl (Nat.le_of_ble_eq_true rfl) (8, 0, 0) (35, 1, 0) rfl rfl rfl (by decide) rfl rfl rfl c9 c10 (fun ad12 h hs11 V => ?_)
  rw [← eρ7] at V
  clear eρ7
  have ea0 : ad12 (8, 0, 0) = ad6 (8, 0, 0) := hs11 _ (Or.inr rfl)
  rw [← ea0]
  replace hSt := St_tr hSt (St_mono (mv' := [35]) (by decide) hs11)
  refine x_aload_n hM d_Se_begin_24 rfl 0 rfl ?_
  refine x_iconst (v := 0) hM d_Se_begin_25 (by decide) ?_
  obtain ⟨ρ13, eρ13⟩ : ∃ z : Rs, z = pI ρ7 (8, 0, 0) 2 0 := ⟨_, rfl⟩
  replace F := F ρ13 eρ13
  refine y_puti hG hM V ck_Se 2 (Nat.le_of_ble_eq_true rfl) rfl rfl w_388 rfl d_Se_begin_26 rfl (8, 0, 0) rfl rfl (fun h V => ?_)
  rw [← eρ13] at V
  clear eρ13
  refine x_iconst (v := 0) hM d_Se_begin_29 (by decide) ?_
  refine x_istore_n (lv2 := [(2, .int 0), (0, .ref (ad12 (8, 0, 0))), (1, .int v1)]) hM d_Se_begin_30 rfl (Nat.le_of_ble_eq_true rfl) rfl ?_
  refine x_sub [1, 2, 0] rfl ?_
  exact F _ _ hSt V
set_option maxRecDepth 100000 in
set_option maxHeartbeats 4000000 in
theorem T_Se_begin_31 {G : Gc} {M : Mc} {Q : State → Prop} {ad0 : Ro → Nat} {K : (Ro → Nat) → Option Value → Rs → Prop} (hG : gok G) (hM : mok G M r_Se_begin Q (KV G [35] ad0 K)) (v1 : Int32) (v2 : Int32) (ρ : Rs) (F : (v1 ≤ v2 → (∀ ad, K ad none ρ)) ∧ (¬ v1 ≤ v2 → (vp_in v2 (nR ρ (35, 0, 0)) ∧ (∀ ρ1 : Rs, ρ1 = pI ρ (35, 0, 0) (Int32.toNatClampNeg v2) 0 → (Y G [35] ad0 M Q 31 (fun ad => [(0, .ref (ad (8, 0, 0))), (1, .int v1), (2, .int (v2 + 1))]) (fun ad => []) ρ1))))) : Y G [35] ad0 M Q 31 (fun ad => [(0, .ref (ad (8, 0, 0))), (1, .int v1), (2, .int v2)]) (fun ad => []) ρ := by
  intro ad h hSt V
  show X G M Q 31 [(0, .ref (ad (8, 0, 0))), (1, .int v1), (2, .int v2)] [] h
  refine x_iload_n hM d_Se_begin_31 rfl 2 rfl ?_
  refine x_iload_n hM d_Se_begin_32 rfl 1 rfl ?_
  refine x_icmp_ge (tgt := 49) hM d_Se_begin_33 (by decide) (fun q3 => ?_) (fun q3 => ?_)
  · replace F := F.1 q3
    exact x_return hM d_Se_begin_49 rfl (y_end V hSt (F _))
  · replace F := F.2 q3
    refine x_aload_n hM d_Se_begin_36 rfl 0 rfl ?_
    refine y_getr hG hM V ck_Se 0 (Nat.le_of_ble_eq_true rfl) rfl rfl w_386 rfl d_Se_begin_37 (8, 0, 0) (35, 0, 0) rfl rfl rfl ?_
    refine x_iload_n hM d_Se_begin_40 rfl 2 rfl ?_
    refine x_iconst (v := 0) hM d_Se_begin_41 (by decide) ?_
    obtain ⟨c2, F⟩ := F
    obtain ⟨ρ1, eρ1⟩ : ∃ z : Rs, z = pI ρ (35, 0, 0) (Int32.toNatClampNeg v2) 0 := ⟨_, rfl⟩
    replace F := F ρ1 eρ1
    refine y_zastore hG hM V d_Se_begin_42 (35, 0, 0) rfl rfl c2 (Or.inl rfl) (fun h V => ?_)
    rw [← eρ1] at V
    clear eρ1
    refine x_iinc (v := (v2 + 1)) (lv2 := [(2, .int (v2 + 1)), (0, .ref (ad (8, 0, 0))), (1, .int v1)]) hM d_Se_begin_43 (j := 2) rfl rfl (Nat.le_of_ble_eq_true rfl) rfl ?_
    refine x_goto (tgt := 31) hM d_Se_begin_46 (by decide) ?_
    refine x_sub [1, 2, 0] rfl ?_
    exact F _ _ hSt V
set_option maxRecDepth 100000 in
set_option maxHeartbeats 4000000 in
theorem T_Se_visit_0 {G : Gc} {M : Mc} {Q : State → Prop} {ad0 : Ro → Nat} {K : (Ro → Nat) → Option Value → Rs → Prop} (hG : gok G) (hM : mok G M r_Se_visit Q (KV G [] ad0 K)) (v3 : Int32) (ρ : Rs) (F : vp_in v3 (nR ρ (35, 0, 0)) ∧ (((iR ρ (35, 0, 0) (Int32.toNatClampNeg v3)) = 0 → (vp_in v3 (nR ρ (35, 0, 0)) ∧ (∀ ρ2 : Rs, ρ2 = pI ρ (35, 0, 0) (Int32.toNatClampNeg v3) 1 → (((iR ρ2 (8, 0, 0) 3) = (-1) → (vp_in (iR ρ2 (8, 0, 0) 2) (nR ρ2 (35, 1, 0)) ∧ (∀ ρ3 : Rs, ρ3 = pI ρ2 (35, 1, 0) (Int32.toNatClampNeg (iR ρ2 (8, 0, 0) 2)) v3 → (∀ ρ4 : Rs, ρ4 = pI ρ3 (8, 0, 0) 2 ((iR ρ3 (8, 0, 0) 2) + 1) → (vp_in v3 (nR ρ4 (33, 0, 0)) ∧ (nb (iR ρ4 (33, 0, 0) (Int32.toNatClampNeg v3)) ∧ (∀ ad, K ad (some (.int (iR ρ4 (33, 0, 0) (Int32.toNatClampNeg v3)))) ρ4))))))) ∧ (¬ (iR ρ2 (8, 0, 0) 3) = (-1) → (vp_in v3 (nR ρ2 (30, 6, 0)) ∧ (semV G r_WP_valueIn [] (fun ad => [.int (iR ρ2 (30, 6, 0) (Int32.toNatClampNeg v3)), .int (iR ρ2 (8, 0, 0) 3)]) ρ2 (fun ad u9 ρ8 => ∃ x11 : Int32, u9 = some (.int x11) ∧ ((x11 = (iR ρ8 (8, 0, 0) 4) → (∀ ad, K ad (some (.int 0)) ρ8)) ∧ (¬ x11 = (iR ρ8 (8, 0, 0) 4) → (vp_in (iR ρ8 (8, 0, 0) 2) (nR ρ8 (35, 1, 0)) ∧ (∀ ρ12 : Rs, ρ12 = pI ρ8 (35, 1, 0) (Int32.toNatClampNeg (iR ρ8 (8, 0, 0) 2)) v3 → (∀ ρ13 : Rs, ρ13 = pI ρ12 (8, 0, 0) 2 ((iR ρ12 (8, 0, 0) 2) + 1) → (vp_in v3 (nR ρ13 (33, 0, 0)) ∧ (nb (iR ρ13 (33, 0, 0) (Int32.toNatClampNeg v3)) ∧ (∀ ad, K ad (some (.int (iR ρ13 (33, 0, 0) (Int32.toNatClampNeg v3)))) ρ13)))))))))))))))) ∧ (¬ (iR ρ (35, 0, 0) (Int32.toNatClampNeg v3)) = 0 → (∀ ad, K ad (some (.int 0)) ρ)))) : Y G [] ad0 M Q 0 (fun ad => [(0, .ref (ad (8, 0, 0))), (1, .ref (ad (1, 0, 0))), (2, .ref (ad (33, 0, 0))), (3, .int v3)]) (fun ad => []) ρ := by
  intro ad h hSt V
  show X G M Q 0 [(0, .ref (ad (8, 0, 0))), (1, .ref (ad (1, 0, 0))), (2, .ref (ad (33, 0, 0))), (3, .int v3)] [] h
  refine x_aload_n hM d_Se_visit_0 rfl 0 rfl ?_
  refine y_getr hG hM V ck_Se 0 (Nat.le_of_ble_eq_true rfl) rfl rfl w_386 rfl d_Se_visit_1 (8, 0, 0) (35, 0, 0) rfl rfl rfl ?_
  refine x_iload_n hM d_Se_visit_4 rfl 3 rfl ?_
  obtain ⟨c1, F⟩ := F
  refine y_zaload hG hM V d_Se_visit_5 (35, 0, 0) rfl rfl c1 ?_
  refine x_if_eq (tgt := 11) hM d_Se_visit_6 (by decide) (fun q20 => ?_) (fun q20 => ?_)
  · replace F := F.1 q20
    refine x_aload_n hM d_Se_visit_11 rfl 0 rfl ?_
    refine y_getr hG hM V ck_Se 0 (Nat.le_of_ble_eq_true rfl) rfl rfl w_386 rfl d_Se_visit_12 (8, 0, 0) (35, 0, 0) rfl rfl rfl ?_
    refine x_iload_n hM d_Se_visit_15 rfl 3 rfl ?_
    refine x_iconst (v := 1) hM d_Se_visit_16 (by decide) ?_
    obtain ⟨c19, F⟩ := F
    obtain ⟨ρ2, eρ2⟩ : ∃ z : Rs, z = pI ρ (35, 0, 0) (Int32.toNatClampNeg v3) 1 := ⟨_, rfl⟩
    replace F := F ρ2 eρ2
    refine y_zastore hG hM V d_Se_visit_17 (35, 0, 0) rfl rfl c19 (Or.inr rfl) (fun h V => ?_)
    rw [← eρ2] at V
    clear eρ2
    refine x_aload_n hM d_Se_visit_18 rfl 0 rfl ?_
    refine y_geti hG hM V ck_Se 3 (Nat.le_of_ble_eq_true rfl) rfl rfl w_389 rfl d_Se_visit_19 (8, 0, 0) rfl rfl ?_
    refine x_iconst (v := (-1)) hM d_Se_visit_22 (by decide) ?_
    refine x_icmp_eq (tgt := 48) hM d_Se_visit_23 (by decide) (fun q18 => ?_) (fun q18 => ?_)
    · replace F := F.1 q18
      refine x_aload_n hM d_Se_visit_48 rfl 0 rfl ?_
      refine y_getr hG hM V ck_Se 1 (Nat.le_of_ble_eq_true rfl) rfl rfl w_387 rfl d_Se_visit_49 (8, 0, 0) (35, 1, 0) rfl rfl rfl ?_
      refine x_aload_n hM d_Se_visit_52 rfl 0 rfl ?_
      refine y_geti hG hM V ck_Se 2 (Nat.le_of_ble_eq_true rfl) rfl rfl w_388 rfl d_Se_visit_53 (8, 0, 0) rfl rfl ?_
      refine x_iload_n hM d_Se_visit_56 rfl 3 rfl ?_
      obtain ⟨c6, F⟩ := F
      obtain ⟨ρ3, eρ3⟩ : ∃ z : Rs, z = pI ρ2 (35, 1, 0) (Int32.toNatClampNeg (iR ρ2 (8, 0, 0) 2)) v3 := ⟨_, rfl⟩
      replace F := F ρ3 eρ3
      refine y_iastore hG hM V d_Se_visit_57 (35, 1, 0) rfl rfl c6 (fun h V => ?_)
      rw [← eρ3] at V
      clear eρ3
      refine x_aload_n hM d_Se_visit_58 rfl 0 rfl ?_
      refine x_dup hM d_Se_visit_59 rfl ?_
      refine y_geti hG hM V ck_Se 2 (Nat.le_of_ble_eq_true rfl) rfl rfl w_388 rfl d_Se_visit_60 (8, 0, 0) rfl rfl ?_
      refine x_iconst (v := 1) hM d_Se_visit_63 (by decide) ?_
      refine x_iadd hM d_Se_visit_64 ?_
      obtain ⟨ρ4, eρ4⟩ : ∃ z : Rs, z = pI ρ3 (8, 0, 0) 2 ((iR ρ3 (8, 0, 0) 2) + 1) := ⟨_, rfl⟩
      replace F := F ρ4 eρ4
      refine y_puti hG hM V ck_Se 2 (Nat.le_of_ble_eq_true rfl) rfl rfl w_388 rfl d_Se_visit_65 rfl (8, 0, 0) rfl rfl (fun h V => ?_)
      rw [← eρ4] at V
      clear eρ4
      refine x_aload_n hM d_Se_visit_68 rfl 2 rfl ?_
      refine x_iload_n hM d_Se_visit_69 rfl 3 rfl ?_
      obtain ⟨c5, F⟩ := F
      refine y_zaload hG hM V d_Se_visit_70 (33, 0, 0) rfl rfl c5 ?_
      exact x_zreturn hM d_Se_visit_71 rfl F.1 (y_end V hSt (F.2 _))
    · replace F := F.2 q18
      refine x_aload_n hM d_Se_visit_26 rfl 1 rfl ?_
      refine y_getr hG hM V ck_Wo 6 (Nat.le_of_ble_eq_true rfl) rfl rfl w_152 rfl d_Se_visit_27 (1, 0, 0) (30, 6, 0) rfl rfl rfl ?_
      refine x_iload_n hM d_Se_visit_30 rfl 3 rfl ?_
      obtain ⟨c7, F⟩ := F
      refine y_iaload hG hM V d_Se_visit_31 (30, 6, 0) rfl rfl c7 ?_
      refine x_aload_n hM d_Se_visit_32 rfl 0 rfl ?_
      refine y_geti hG hM V ck_Se 3 (Nat.le_of_ble_eq_true rfl) rfl rfl w_389 rfl d_Se_visit_33 (8, 0, 0) rfl rfl ?_
      refine x_callSN hG hM (r' := r_WP_valueIn) [.int (iR ρ2 (30, 6, 0) (Int32.toNatClampNeg v3)), .int (iR ρ2 (8, 0, 0) 3)] rfl yk_WP_valueIn ⟨Nat.le_of_ble_eq_true rfl, Nat.le_of_ble_eq_true rfl⟩ w_827 w_558 rfl rfl (Nat.le_of_ble_eq_true rfl) d_Se_visit_36 (sem_mono (F _ _ V) ?_)
      intro u9 h F
      obtain ⟨ad17, ρ8, V, hs10, F⟩ := F
      obtain ⟨x11, rfl, F⟩ := F
      have hs10 := (St_eq hs10).symm
      subst hs10
      refine x_aload_n hM d_Se_visit_39 rfl 0 rfl ?_
      refine y_geti hG hM V ck_Se 4 (Nat.le_of_ble_eq_true rfl) rfl rfl w_390 rfl d_Se_visit_40 (8, 0, 0) rfl rfl ?_
      refine x_icmp_ne (tgt := 48) hM d_Se_visit_43 (by decide) (fun q16 => ?_) (fun q16 => ?_)
      · replace F := F.2 q16
        refine x_aload_n hM d_Se_visit_48 rfl 0 rfl ?_
        refine y_getr hG hM V ck_Se 1 (Nat.le_of_ble_eq_true rfl) rfl rfl w_387 rfl d_Se_visit_49 (8, 0, 0) (35, 1, 0) rfl rfl rfl ?_
        refine x_aload_n hM d_Se_visit_52 rfl 0 rfl ?_
        refine y_geti hG hM V ck_Se 2 (Nat.le_of_ble_eq_true rfl) rfl rfl w_388 rfl d_Se_visit_53 (8, 0, 0) rfl rfl ?_
        refine x_iload_n hM d_Se_visit_56 rfl 3 rfl ?_
        obtain ⟨c15, F⟩ := F
        obtain ⟨ρ12, eρ12⟩ : ∃ z : Rs, z = pI ρ8 (35, 1, 0) (Int32.toNatClampNeg (iR ρ8 (8, 0, 0) 2)) v3 := ⟨_, rfl⟩
        replace F := F ρ12 eρ12
        refine y_iastore hG hM V d_Se_visit_57 (35, 1, 0) rfl rfl c15 (fun h V => ?_)
        rw [← eρ12] at V
        clear eρ12
        refine x_aload_n hM d_Se_visit_58 rfl 0 rfl ?_
        refine x_dup hM d_Se_visit_59 rfl ?_
        refine y_geti hG hM V ck_Se 2 (Nat.le_of_ble_eq_true rfl) rfl rfl w_388 rfl d_Se_visit_60 (8, 0, 0) rfl rfl ?_
        refine x_iconst (v := 1) hM d_Se_visit_63 (by decide) ?_
        refine x_iadd hM d_Se_visit_64 ?_
        obtain ⟨ρ13, eρ13⟩ : ∃ z : Rs, z = pI ρ12 (8, 0, 0) 2 ((iR ρ12 (8, 0, 0) 2) + 1) := ⟨_, rfl⟩
        replace F := F ρ13 eρ13
        refine y_puti hG hM V ck_Se 2 (Nat.le_of_ble_eq_true rfl) rfl rfl w_388 rfl d_Se_visit_65 rfl (8, 0, 0) rfl rfl (fun h V => ?_)
        rw [← eρ13] at V
        clear eρ13
        refine x_aload_n hM d_Se_visit_68 rfl 2 rfl ?_
        refine x_iload_n hM d_Se_visit_69 rfl 3 rfl ?_
        obtain ⟨c14, F⟩ := F
        refine y_zaload hG hM V d_Se_visit_70 (33, 0, 0) rfl rfl c14 ?_
        exact x_zreturn hM d_Se_visit_71 rfl F.1 (y_end V hSt (F.2 _))
      · replace F := F.1 q16
        refine x_iconst (v := 0) hM d_Se_visit_46 (by decide) ?_
        exact x_zreturn hM d_Se_visit_47 rfl (Or.inl rfl) (y_end V hSt (F _))
  · replace F := F.2 q20
    refine x_iconst (v := 0) hM d_Se_visit_9 (by decide) ?_
    exact x_zreturn hM d_Se_visit_10 rfl (Or.inl rfl) (y_end V hSt (F _))
