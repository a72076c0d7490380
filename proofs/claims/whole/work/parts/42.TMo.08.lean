set_option maxRecDepth 100000 in
set_option maxHeartbeats 4000000 in
theorem T_Mo_values_0 {G : Gc} {M : Mc} {Q : State → Prop} {ad0 : Ro → Nat} {K : (Ro → Nat) → Option Value → Rs → Prop} (hG : gok G) (hM : mok G M r_Mo_values Q (KV G [] ad0 K)) (v1 : Int32) (ρ : Rs) (F : semV G r_Mo_isThing [] (fun ad => [.ref (ad (40, 0, 0)), .int v1]) ρ (fun ad u2 ρ1 => ∃ x4 : Int32, u2 = some (.int x4) ∧ ((x4 = 0 → (∀ ad, K ad (some (.int (-2))) ρ1)) ∧ (¬ x4 = 0 → (semV G r_Mo_lay [] (fun ad => [.ref (ad (40, 0, 0))]) ρ1 (fun ad u6 ρ5 => u6 = none ∧ (Y G [] ad0 M Q 19 (fun ad => [(0, .ref (ad (40, 0, 0))), (1, .int v1), (2, .int 0), (3, .int 0)]) (fun ad => []) ρ5))))))) : Y G [] ad0 M Q 0 (fun ad => [(0, .ref (ad (40, 0, 0))), (1, .int v1)]) (fun ad => []) ρ := by
  intro ad h hSt V
  show X G M Q 0 [(0, .ref (ad (40, 0, 0))), (1, .int v1)] [] h
  refine x_aload_n hM d_Mo_values_0 rfl 0 rfl ?_
  refine x_iload_n hM d_Mo_values_1 rfl 1 rfl ?_
  refine x_callV hG hM (r' := r_Mo_isThing) (ci := 11) [.int v1] rfl rfl (Nat.le_of_ble_eq_true rfl) yk_Mo_isThing ⟨Nat.le_of_ble_eq_true rfl, Nat.le_of_ble_eq_true rfl⟩ w_1052 w_1054 ws_Mo_isThing rfl rfl (Nat.le_of_ble_eq_true rfl) d_Mo_values_2 (by rw [vT V rfl]; rfl) (sem_mono (F _ _ V) ?_)
  intro u2 h F
  obtain ⟨ad10, ρ1, V, hs3, F⟩ := F
  obtain ⟨x4, rfl, F⟩ := F
  have hs3 := (St_eq hs3).symm
  subst hs3
  refine x_if_ne (tgt := 11) hM d_Mo_values_5 (by decide) (fun q9 => ?_) (fun q9 => ?_)
  · replace F := F.2 q9
    refine x_aload_n hM d_Mo_values_11 rfl 0 rfl ?_
    refine x_callV hG hM (r' := r_Mo_lay) (ci := 11) [] rfl rfl (Nat.le_of_ble_eq_true rfl) yk_Mo_lay ⟨Nat.le_of_ble_eq_true rfl, Nat.le_of_ble_eq_true rfl⟩ w_1112 w_1114 ws_Mo_lay rfl rfl (Nat.le_of_ble_eq_true rfl) d_Mo_values_12 (by rw [vT V rfl]; rfl) (sem_mono (F _ _ V) ?_)
    intro u6 h F
    obtain ⟨ad8, ρ5, V, hs7, F⟩ := F
    obtain ⟨rfl, F⟩ := F
    have hs7 := (St_eq hs7).symm
    subst hs7
    refine x_iconst (v := 0) hM d_Mo_values_15 (by decide) ?_
    refine x_istore_n (lv2 := [(2, .int 0), (0, .ref (ad (40, 0, 0))), (1, .int v1)]) hM d_Mo_values_16 rfl (Nat.le_of_ble_eq_true rfl) rfl ?_
    refine x_iconst (v := 0) hM d_Mo_values_17 (by decide) ?_
    refine x_istore_n (lv2 := [(3, .int 0), (2, .int 0), (0, .ref (ad (40, 0, 0))), (1, .int v1)]) hM d_Mo_values_18 rfl (Nat.le_of_ble_eq_true rfl) rfl ?_
    refine x_sub [2, 3, 1, 0] rfl ?_
    exact F _ _ hSt V
  · replace F := F.1 q9
    refine x_bipush (v := (-2)) hM d_Mo_values_8 (by decide) ?_
    exact x_ireturn hM d_Mo_values_10 rfl (y_end V hSt (F _))
set_option maxRecDepth 100000 in
set_option maxHeartbeats 4000000 in
theorem T_Mo_values_19 {G : Gc} {M : Mc} {Q : State → Prop} {ad0 : Ro → Nat} {K : (Ro → Nat) → Option Value → Rs → Prop} (hG : gok G) (hM : mok G M r_Mo_values Q (KV G [] ad0 K)) (v1 : Int32) (v2 : Int32) (v3 : Int32) (ρ : Rs) (F : ((iR ρ (40, 0, 0) 13) ≤ v3 → (∀ ad, K ad (some (.int v2)) ρ)) ∧ (¬ (iR ρ (40, 0, 0) 13) ≤ v3 → (vp_in v3 4096 ∧ (((iR ρ (41, 19, 0) (Int32.toNatClampNeg v3)) = (-1) → (Y G [] ad0 M Q 19 (fun ad => [(0, .ref (ad (40, 0, 0))), (1, .int v1), (2, .int v2), (3, .int (v3 + 1))]) (fun ad => []) ρ)) ∧ (¬ (iR ρ (41, 19, 0) (Int32.toNatClampNeg v3)) = (-1) → (semV G r_Mo_open [] (fun ad => [.ref (ad (40, 0, 0)), .int v3]) ρ (fun ad u4 ρ3 => u4 = none ∧ (vp_in v1 8 ∧ (Y G [] ad0 M Q 19 (fun ad => [(0, .ref (ad (40, 0, 0))), (1, .int v1), (2, .int (v2 ||| (1 <<< ((iR ρ3 (41, 10, 0) (Int32.toNatClampNeg v1)) &&& 31)))), (3, .int (v3 + 1))]) (fun ad => []) ρ3))))))))) : Y G [] ad0 M Q 19 (fun ad => [(0, .ref (ad (40, 0, 0))), (1, .int v1), (2, .int v2), (3, .int v3)]) (fun ad => []) ρ := by
  intro ad h hSt V
  show X G M Q 19 [(0, .ref (ad (40, 0, 0))), (1, .int v1), (2, .int v2), (3, .int v3)] [] h
  refine x_iload_n hM d_Mo_values_19 rfl 3 rfl ?_
  refine x_aload_n hM d_Mo_values_20 rfl 0 rfl ?_
  refine y_geti hG hM V ck_Mo 13 (Nat.le_of_ble_eq_true rfl) rfl rfl w_910 rfl d_Mo_values_21 (40, 0, 0) rfl rfl ?_
  refine x_icmp_ge (tgt := 59) hM d_Mo_values_24 (by decide) (fun q9 => ?_) (fun q9 => ?_)
  · replace F := F.1 q9
    refine x_iload_n hM d_Mo_values_59 rfl 2 rfl ?_
    exact x_ireturn hM d_Mo_values_60 rfl (y_end V hSt (F _))
  · replace F := F.2 q9
    refine x_aload_n hM d_Mo_values_27 rfl 0 rfl ?_
    refine y_getr hG hM V ck_Mo 19 (Nat.le_of_ble_eq_true rfl) rfl rfl w_916 rfl d_Mo_values_28 (40, 0, 0) (41, 19, 0) rfl rfl rfl ?_
    refine x_iload_n hM d_Mo_values_31 rfl 3 rfl ?_
    obtain ⟨c2, F⟩ := F
    refine y_iaload hG hM V d_Mo_values_32 (41, 19, 0) rfl rfl (by rw [vlen V (r := (41, 19, 0)) rfl rfl]; exact c2) ?_
    refine x_iconst (v := (-1)) hM d_Mo_values_33 (by decide) ?_
    refine x_icmp_eq (tgt := 53) hM d_Mo_values_34 (by decide) (fun q8 => ?_) (fun q8 => ?_)
    · replace F := F.1 q8
      refine x_iinc (v := (v3 + 1)) (lv2 := [(3, .int (v3 + 1)), (0, .ref (ad (40, 0, 0))), (1, .int v1), (2, .int v2)]) hM d_Mo_values_53 (j := 3) rfl rfl (Nat.le_of_ble_eq_true rfl) rfl ?_
      refine x_goto (tgt := 19) hM d_Mo_values_56 (by decide) ?_
      refine x_sub [1, 2, 3, 0] rfl ?_
      exact F _ _ hSt V
    · replace F := F.2 q8
      refine x_aload_n hM d_Mo_values_37 rfl 0 rfl ?_
      refine x_iload_n hM d_Mo_values_38 rfl 3 rfl ?_
      refine x_callV hG hM (r' := r_Mo_open) (ci := 11) [.int v3] rfl rfl (Nat.le_of_ble_eq_true rfl) yk_Mo_open ⟨Nat.le_of_ble_eq_true rfl, Nat.le_of_ble_eq_true rfl⟩ w_1092 w_1094 ws_Mo_open rfl rfl (Nat.le_of_ble_eq_true rfl) d_Mo_values_39 (by rw [vT V rfl]; rfl) (sem_mono (F _ _ V) ?_)
      intro u4 h F
      obtain ⟨ad7, ρ3, V, hs5, F⟩ := F
      obtain ⟨rfl, F⟩ := F
      have hs5 := (St_eq hs5).symm
      subst hs5
      refine x_iload_n hM d_Mo_values_42 rfl 2 rfl ?_
      refine x_iconst (v := 1) hM d_Mo_values_43 (by decide) ?_
      refine x_aload_n hM d_Mo_values_44 rfl 0 rfl ?_
      refine y_getr hG hM V ck_Mo 10 (Nat.le_of_ble_eq_true rfl) rfl rfl w_907 rfl d_Mo_values_45 (40, 0, 0) (41, 10, 0) rfl rfl rfl ?_
      refine x_iload_n hM d_Mo_values_48 rfl 1 rfl ?_
      obtain ⟨c6, F⟩ := F
      refine y_iaload hG hM V d_Mo_values_49 (41, 10, 0) rfl rfl (by rw [vlen V (r := (41, 10, 0)) rfl rfl]; exact c6) ?_
      refine x_ishl hM d_Mo_values_50 ?_
      refine x_ior hM d_Mo_values_51 ?_
      refine x_istore_n (lv2 := [(2, .int (v2 ||| (1 <<< ((iR ρ3 (41, 10, 0) (Int32.toNatClampNeg v1)) &&& 31)))), (0, .ref (ad (40, 0, 0))), (1, .int v1), (3, .int v3)]) hM d_Mo_values_52 rfl (Nat.le_of_ble_eq_true rfl) rfl ?_
      refine x_iinc (v := (v3 + 1)) (lv2 := [(3, .int (v3 + 1)), (2, .int (v2 ||| (1 <<< ((iR ρ3 (41, 10, 0) (Int32.toNatClampNeg v1)) &&& 31)))), (0, .ref (ad (40, 0, 0))), (1, .int v1)]) hM d_Mo_values_53 (j := 3) rfl rfl (Nat.le_of_ble_eq_true rfl) rfl ?_
      refine x_goto (tgt := 19) hM d_Mo_values_56 (by decide) ?_
      refine x_sub [2, 3, 1, 0] rfl ?_
      exact F _ _ hSt V
set_option maxRecDepth 100000 in
set_option maxHeartbeats 4000000 in
theorem T_Mo_flaw_0 {G : Gc} {M : Mc} {Q : State → Prop} {ad0 : Ro → Nat} {K : (Ro → Nat) → Option Value → Rs → Prop} (hG : gok G) (hM : mok G M r_Mo_flaw Q (KV G [] ad0 K)) (v1 : Int32) (ρ : Rs) (F : semV G r_Mo_isIn [] (fun ad => [.int v1, .int 0, .int 3]) ρ (fun ad u2 ρ1 => ∃ x4 : Int32, u2 = some (.int x4) ∧ ((x4 = 0 → (∀ ad, K ad (some (.int (-2))) ρ1)) ∧ (¬ x4 = 0 → (semV G r_Mo_findFlaw [] (fun ad => [.ref (ad (40, 0, 0))]) ρ1 (fun ad u6 ρ5 => ∃ x8 : Int32, u6 = some (.int x8) ∧ (∀ z9 : Int32, z9 = (if v1 = 0 then x8 else (if v1 = 1 then (iR ρ5 (40, 0, 0) 35) else (if (iR ρ5 (40, 0, 0) 36) = (-1) then (-1) else (if v1 = 2 then ((iR ρ5 (40, 0, 0) 36) / 3) else ((iR ρ5 (40, 0, 0) 36) - (iR ρ5 (40, 0, 0) 36) / 3 * 3))))) → (∀ ad, K ad (some (.int z9)) ρ5)))))))) : Y G [] ad0 M Q 0 (fun ad => [(0, .ref (ad (40, 0, 0))), (1, .int v1)]) (fun ad => []) ρ := by
  intro ad h hSt V
  show X G M Q 0 [(0, .ref (ad (40, 0, 0))), (1, .int v1)] [] h
  refine x_iload_n hM d_Mo_flaw_0 rfl 1 rfl ?_
  refine x_iconst (v := 0) hM d_Mo_flaw_1 (by decide) ?_
  refine x_iconst (v := 3) hM d_Mo_flaw_2 (by decide) ?_
  refine x_callS hG hM (r' := r_Mo_isIn) [.int v1, .int 0, .int 3] rfl yk_Mo_isIn ⟨Nat.le_of_ble_eq_true rfl, Nat.le_of_ble_eq_true rfl⟩ w_1017 w_1018 rfl rfl (Nat.le_of_ble_eq_true rfl) d_Mo_flaw_3 (sem_mono (F _ _ V) ?_)
  intro u2 h F
  obtain ⟨ad16, ρ1, V, hs3, F⟩ := F
  obtain ⟨x4, rfl, F⟩ := F
  have hs3 := (St_eq hs3).symm
  subst hs3
  refine x_if_ne (tgt := 12) hM d_Mo_flaw_6 (by decide) (fun q15 => ?_) (fun q15 => ?_)
  · replace F := F.2 q15
    refine x_aload_n hM d_Mo_flaw_12 rfl 0 rfl ?_
    refine x_callV hG hM (r' := r_Mo_findFlaw) (ci := 11) [] rfl rfl (Nat.le_of_ble_eq_true rfl) yk_Mo_findFlaw ⟨Nat.le_of_ble_eq_true rfl, Nat.le_of_ble_eq_true rfl⟩ w_1201 w_1203 ws_Mo_findFlaw rfl rfl (Nat.le_of_ble_eq_true rfl) d_Mo_flaw_13 (by rw [vT V rfl]; rfl) (sem_mono (F _ _ V) ?_)
    intro u6 h F
    obtain ⟨ad14, ρ5, V, hs7, F⟩ := F
    obtain ⟨x8, rfl, F⟩ := F
    have hs7 := (St_eq hs7).symm
    subst hs7
    refine x_istore_n (lv2 := [(2, .int x8), (0, .ref (ad (40, 0, 0))), (1, .int v1)]) hM d_Mo_flaw_16 rfl (Nat.le_of_ble_eq_true rfl) rfl ?_
    refine x_iload_n hM d_Mo_flaw_17 rfl 2 rfl ?_
    have JJ : ∀ (z9 : Int32) (ez9 : z9 = (if v1 = 0 then x8 else (if v1 = 1 then (iR ρ5 (40, 0, 0) 35) else (if (iR ρ5 (40, 0, 0) 36) = (-1) then (-1) else (if v1 = 2 then ((iR ρ5 (40, 0, 0) 36) / 3) else ((iR ρ5 (40, 0, 0) 36) - (iR ρ5 (40, 0, 0) 36) / 3 * 3)))))), X G M Q 69 [] [.int z9] h := by
      intro z9 ez9
      replace F := F _ ez9
      exact x_ireturn hM d_Mo_flaw_69 rfl (y_end V hSt (F _))
    refine x_if_ne (tgt := 25) hM d_Mo_flaw_18 (by decide) (fun q10 => ?_) (fun q10 => ?_)
    · refine x_iload_n hM d_Mo_flaw_25 rfl 2 rfl ?_
      refine x_iconst (v := 1) hM d_Mo_flaw_26 (by decide) ?_
      refine x_icmp_ne (tgt := 37) hM d_Mo_flaw_27 (by decide) (fun q11 => ?_) (fun q11 => ?_)
      · refine x_aload_n hM d_Mo_flaw_37 rfl 1 rfl ?_
        refine y_geti hG hM V ck_Mo 36 (Nat.le_of_ble_eq_true rfl) rfl rfl w_933 rfl d_Mo_flaw_38 (40, 0, 0) rfl rfl ?_
        refine x_iconst (v := (-1)) hM d_Mo_flaw_41 (by decide) ?_
        refine x_icmp_ne (tgt := 49) hM d_Mo_flaw_42 (by decide) (fun q12 => ?_) (fun q12 => ?_)
        · refine x_iload_n hM d_Mo_flaw_49 rfl 2 rfl ?_
          refine x_iconst (v := 2) hM d_Mo_flaw_50 (by decide) ?_
          refine x_icmp_ne (tgt := 63) hM d_Mo_flaw_51 (by decide) (fun q13 => ?_) (fun q13 => ?_)
          · refine x_aload_n hM d_Mo_flaw_63 rfl 1 rfl ?_
            refine y_geti hG hM V ck_Mo 36 (Nat.le_of_ble_eq_true rfl) rfl rfl w_933 rfl d_Mo_flaw_64 (40, 0, 0) rfl rfl ?_
            refine x_iconst (v := 3) hM d_Mo_flaw_67 (by decide) ?_
            refine x_irem hM d_Mo_flaw_68 (by decide) ?_
            refine x_sub [] rfl ?_
            exact JJ _ (Eq.symm (Eq.trans (if_neg q10) (Eq.trans (if_neg q11) (Eq.trans (if_neg q12) (if_neg q13)))))
          · refine x_aload_n hM d_Mo_flaw_54 rfl 1 rfl ?_
            refine y_geti hG hM V ck_Mo 36 (Nat.le_of_ble_eq_true rfl) rfl rfl w_933 rfl d_Mo_flaw_55 (40, 0, 0) rfl rfl ?_
            refine x_iconst (v := 3) hM d_Mo_flaw_58 (by decide) ?_
            refine x_idiv hM d_Mo_flaw_59 (by decide) ?_
            refine x_goto (tgt := 69) hM d_Mo_flaw_60 (by decide) ?_
            refine x_sub [] rfl ?_
            exact JJ _ (Eq.symm (Eq.trans (if_neg q10) (Eq.trans (if_neg q11) (Eq.trans (if_neg q12) (if_pos q13)))))
        · refine x_iconst (v := (-1)) hM d_Mo_flaw_45 (by decide) ?_
          refine x_goto (tgt := 69) hM d_Mo_flaw_46 (by decide) ?_
          refine x_sub [] rfl ?_
          exact JJ _ (Eq.symm (Eq.trans (if_neg q10) (Eq.trans (if_neg q11) (if_pos q12))))
      · refine x_aload_n hM d_Mo_flaw_30 rfl 1 rfl ?_
        refine y_geti hG hM V ck_Mo 35 (Nat.le_of_ble_eq_true rfl) rfl rfl w_932 rfl d_Mo_flaw_31 (40, 0, 0) rfl rfl ?_
        refine x_goto (tgt := 69) hM d_Mo_flaw_34 (by decide) ?_
        refine x_sub [] rfl ?_
        exact JJ _ (Eq.symm (Eq.trans (if_neg q10) (if_pos q11)))
    · refine x_iload_n hM d_Mo_flaw_21 rfl 0 rfl ?_
      refine x_goto (tgt := 69) hM d_Mo_flaw_22 (by decide) ?_
      refine x_sub [] rfl ?_
      exact JJ _ (Eq.symm (if_pos q10))
  · replace F := F.1 q15
    refine x_bipush (v := (-2)) hM d_Mo_flaw_9 (by decide) ?_
    exact x_ireturn hM d_Mo_flaw_11 rfl (y_end V hSt (F _))
set_option maxRecDepth 100000 in
set_option maxHeartbeats 4000000 in
theorem T_Mo_findFlaw_0 {G : Gc} {M : Mc} {Q : State → Prop} {ad0 : Ro → Nat} {K : (Ro → Nat) → Option Value → Rs → Prop} (hG : gok G) (hM : mok G M r_Mo_findFlaw Q (KV G [] ad0 K))  (ρ : Rs) (F : semV G r_Mo_lay [] (fun ad => [.ref (ad (40, 0, 0))]) ρ (fun ad u2 ρ1 => u2 = none ∧ (∀ ρ4 : Rs, ρ4 = pI ρ1 (40, 0, 0) 35 (-1) → (∀ ρ5 : Rs, ρ5 = pI ρ4 (40, 0, 0) 36 (-1) → (semV G r_Mo_isCovered [] (fun ad => [.ref (ad (40, 0, 0)), .int (iR ρ5 (40, 0, 0) 2)]) ρ5 (fun ad u7 ρ6 => ∃ x9 : Int32, u7 = some (.int x9) ∧ ((x9 = 0 → (∀ ad, K ad (some (.int 1)) ρ6)) ∧ (¬ x9 = 0 → (Y G [] ad0 M Q 29 (fun ad => [(0, .ref (ad (40, 0, 0))), (1, .int 0)]) (fun ad => []) ρ6))))))))) : Y G [] ad0 M Q 0 (fun ad => [(0, .ref (ad (40, 0, 0)))]) (fun ad => []) ρ := by
  intro ad h hSt V
  show X G M Q 0 [(0, .ref (ad (40, 0, 0)))] [] h
  refine x_aload_n hM d_Mo_findFlaw_0 rfl 0 rfl ?_
  refine x_callV hG hM (r' := r_Mo_lay) (ci := 11) [] rfl rfl (Nat.le_of_ble_eq_true rfl) yk_Mo_lay ⟨Nat.le_of_ble_eq_true rfl, Nat.le_of_ble_eq_true rfl⟩ w_1112 w_1114 ws_Mo_lay rfl rfl (Nat.le_of_ble_eq_true rfl) d_Mo_findFlaw_1 (by rw [vT V rfl]; rfl) (sem_mono (F _ _ V) ?_)
  intro u2 h F
  obtain ⟨ad12, ρ1, V, hs3, F⟩ := F
  obtain ⟨rfl, F⟩ := F
  have hs3 := (St_eq hs3).symm
  subst hs3
  refine x_aload_n hM d_Mo_findFlaw_4 rfl 0 rfl ?_
  refine x_iconst (v := (-1)) hM d_Mo_findFlaw_5 (by decide) ?_
  obtain ⟨ρ4, eρ4⟩ : ∃ z : Rs, z = pI ρ1 (40, 0, 0) 35 (-1) := ⟨_, rfl⟩
  replace F := F ρ4 eρ4
  refine y_puti hG hM V ck_Mo 35 (Nat.le_of_ble_eq_true rfl) rfl rfl w_932 rfl d_Mo_findFlaw_6 rfl (40, 0, 0) rfl rfl (fun h V => ?_)
  rw [← eρ4] at V
  clear eρ4
  refine x_aload_n hM d_Mo_findFlaw_9 rfl 0 rfl ?_
  refine x_iconst (v := (-1)) hM d_Mo_findFlaw_10 (by decide) ?_
  obtain ⟨ρ5, eρ5⟩ : ∃ z : Rs, z = pI ρ4 (40, 0, 0) 36 (-1) := ⟨_, rfl⟩
  replace F := F ρ5 eρ5
  refine y_puti hG hM V ck_Mo 36 (Nat.le_of_ble_eq_true rfl) rfl rfl w_933 rfl d_Mo_findFlaw_11 rfl (40, 0, 0) rfl rfl (fun h V => ?_)
  rw [← eρ5] at V
  clear eρ5
  refine x_aload_n hM d_Mo_findFlaw_14 rfl 0 rfl ?_
  refine x_aload_n hM d_Mo_findFlaw_15 rfl 0 rfl ?_
  refine y_geti hG hM V ck_Mo 2 (Nat.le_of_ble_eq_true rfl) rfl rfl w_899 rfl d_Mo_findFlaw_16 (40, 0, 0) rfl rfl ?_
  refine x_callV hG hM (r' := r_Mo_isCovered) (ci := 11) [.int (iR ρ5 (40, 0, 0) 2)] rfl rfl (Nat.le_of_ble_eq_true rfl) yk_Mo_isCovered ⟨Nat.le_of_ble_eq_true rfl, Nat.le_of_ble_eq_true rfl⟩ w_1205 w_1207 ws_Mo_isCovered rfl rfl (Nat.le_of_ble_eq_true rfl) d_Mo_findFlaw_19 (by rw [vT V rfl]; rfl) (sem_mono (F _ _ V) ?_)
  intro u7 h F
  obtain ⟨ad11, ρ6, V, hs8, F⟩ := F
  obtain ⟨x9, rfl, F⟩ := F
  have hs8 := (St_eq hs8).symm
  subst hs8
  refine x_if_ne (tgt := 27) hM d_Mo_findFlaw_22 (by decide) (fun q10 => ?_) (fun q10 => ?_)
  · replace F := F.2 q10
    refine x_iconst (v := 0) hM d_Mo_findFlaw_27 (by decide) ?_
    refine x_istore_n (lv2 := [(1, .int 0), (0, .ref (ad (40, 0, 0)))]) hM d_Mo_findFlaw_28 rfl (Nat.le_of_ble_eq_true rfl) rfl ?_
    refine x_sub [1, 0] rfl ?_
    exact F _ _ hSt V
  · replace F := F.1 q10
    refine x_iconst (v := 1) hM d_Mo_findFlaw_25 (by decide) ?_
    exact x_ireturn hM d_Mo_findFlaw_26 rfl (y_end V hSt (F _))
set_option maxRecDepth 100000 in
set_option maxHeartbeats 4000000 in
theorem T_Mo_findFlaw_29 {G : Gc} {M : Mc} {Q : State → Prop} {ad0 : Ro → Nat} {K : (Ro → Nat) → Option Value → Rs → Prop} (hG : gok G) (hM : mok G M r_Mo_findFlaw Q (KV G [] ad0 K)) (v1 : Int32) (ρ : Rs) (F : ((iR ρ (40, 0, 0) 13) ≤ v1 → (Y G [] ad0 M Q 56 (fun ad => [(0, .ref (ad (40, 0, 0))), (1, .int 0)]) (fun ad => []) ρ)) ∧ (¬ (iR ρ (40, 0, 0) 13) ≤ v1 → (semV G r_Mo_isCovered [] (fun ad => [.ref (ad (40, 0, 0)), .int v1]) ρ (fun ad u2 ρ1 => ∃ x4 : Int32, u2 = some (.int x4) ∧ (vp_in v1 4096 ∧ nb x4 ∧ (∀ ρ5 : Rs, ρ5 = pI ρ1 (41, 34, 0) (Int32.toNatClampNeg v1) x4 → (Y G [] ad0 M Q 29 (fun ad => [(0, .ref (ad (40, 0, 0))), (1, .int (v1 + 1))]) (fun ad => []) ρ5))))))) : Y G [] ad0 M Q 29 (fun ad => [(0, .ref (ad (40, 0, 0))), (1, .int v1)]) (fun ad => []) ρ := by
  intro ad h hSt V
  show X G M Q 29 [(0, .ref (ad (40, 0, 0))), (1, .int v1)] [] h
  refine x_iload_n hM d_Mo_findFlaw_29 rfl 1 rfl ?_
  refine x_aload_n hM d_Mo_findFlaw_30 rfl 0 rfl ?_
  refine y_geti hG hM V ck_Mo 13 (Nat.le_of_ble_eq_true rfl) rfl rfl w_910 rfl d_Mo_findFlaw_31 (40, 0, 0) rfl rfl ?_
  refine x_icmp_ge (tgt := 54) hM d_Mo_findFlaw_34 (by decide) (fun q9 => ?_) (fun q9 => ?_)
  · replace F := F.1 q9
    refine x_iconst (v := 0) hM d_Mo_findFlaw_54 (by decide) ?_
    refine x_istore_n (lv2 := [(1, .int 0), (0, .ref (ad (40, 0, 0)))]) hM d_Mo_findFlaw_55 rfl (Nat.le_of_ble_eq_true rfl) rfl ?_
    refine x_sub [1, 0] rfl ?_
    exact F _ _ hSt V
  · replace F := F.2 q9
    refine x_aload_n hM d_Mo_findFlaw_37 rfl 0 rfl ?_
    refine y_getr hG hM V ck_Mo 34 (Nat.le_of_ble_eq_true rfl) rfl rfl w_931 rfl d_Mo_findFlaw_38 (40, 0, 0) (41, 34, 0) rfl rfl rfl ?_
    refine x_iload_n hM d_Mo_findFlaw_41 rfl 1 rfl ?_
    refine x_aload_n hM d_Mo_findFlaw_42 rfl 0 rfl ?_
    refine x_iload_n hM d_Mo_findFlaw_43 rfl 1 rfl ?_
    refine x_callV hG hM (r' := r_Mo_isCovered) (ci := 11) [.int v1] rfl rfl (Nat.le_of_ble_eq_true rfl) yk_Mo_isCovered ⟨Nat.le_of_ble_eq_true rfl, Nat.le_of_ble_eq_true rfl⟩ w_1205 w_1207 ws_Mo_isCovered rfl rfl (Nat.le_of_ble_eq_true rfl) d_Mo_findFlaw_44 (by rw [vT V rfl]; rfl) (sem_mono (F _ _ V) ?_)
    intro u2 h F
    obtain ⟨ad8, ρ1, V, hs3, F⟩ := F
    obtain ⟨x4, rfl, F⟩ := F
    have hs3 := (St_eq hs3).symm
    subst hs3
    obtain ⟨c6, F⟩ := F
    obtain ⟨c7, F⟩ := F
    obtain ⟨ρ5, eρ5⟩ : ∃ z : Rs, z = pI ρ1 (41, 34, 0) (Int32.toNatClampNeg v1) x4 := ⟨_, rfl⟩
    replace F := F ρ5 eρ5
    refine y_zastore hG hM V d_Mo_findFlaw_47 (41, 34, 0) rfl rfl (by rw [vlen V (r := (41, 34, 0)) rfl rfl]; exact c6) c7 (fun h V => ?_)
    rw [← eρ5] at V
    clear eρ5
    refine x_iinc (v := (v1 + 1)) (lv2 := [(1, .int (v1 + 1)), (0, .ref (ad (40, 0, 0)))]) hM d_Mo_findFlaw_48 (j := 1) rfl rfl (Nat.le_of_ble_eq_true rfl) rfl ?_
    refine x_goto (tgt := 29) hM d_Mo_findFlaw_51 (by decide) ?_
    refine x_sub [1, 0] rfl ?_
    exact F _ _ hSt V
set_option maxRecDepth 100000 in
set_option maxHeartbeats 4000000 in
theorem T_Mo_findFlaw_56 {G : Gc} {M : Mc} {Q : State → Prop} {ad0 : Ro → Nat} {K : (Ro → Nat) → Option Value → Rs → Prop} (hG : gok G) (hM : mok G M r_Mo_findFlaw Q (KV G [] ad0 K)) (v1 : Int32) (ρ : Rs) (F : ((iR ρ (40, 0, 0) 13) ≤ v1 → (Y G [] ad0 M Q 137 (fun ad => [(0, .ref (ad (40, 0, 0))), (1, .int 0)]) (fun ad => []) ρ)) ∧ (¬ (iR ρ (40, 0, 0) 13) ≤ v1 → (Y G [] ad0 M Q 66 (fun ad => [(0, .ref (ad (40, 0, 0))), (1, .int v1), (2, .int 0)]) (fun ad => []) ρ))) : Y G [] ad0 M Q 56 (fun ad => [(0, .ref (ad (40, 0, 0))), (1, .int v1)]) (fun ad => []) ρ := by
  intro ad h hSt V
  show X G M Q 56 [(0, .ref (ad (40, 0, 0))), (1, .int v1)] [] h
  refine x_iload_n hM d_Mo_findFlaw_56 rfl 1 rfl ?_
  refine x_aload_n hM d_Mo_findFlaw_57 rfl 0 rfl ?_
  refine y_geti hG hM V ck_Mo 13 (Nat.le_of_ble_eq_true rfl) rfl rfl w_910 rfl d_Mo_findFlaw_58 (40, 0, 0) rfl rfl ?_
  refine x_icmp_ge (tgt := 135) hM d_Mo_findFlaw_61 (by decide) (fun q1 => ?_) (fun q1 => ?_)
  · replace F := F.1 q1
    refine x_iconst (v := 0) hM d_Mo_findFlaw_135 (by decide) ?_
    refine x_istore_n (lv2 := [(1, .int 0), (0, .ref (ad (40, 0, 0)))]) hM d_Mo_findFlaw_136 rfl (Nat.le_of_ble_eq_true rfl) rfl ?_
    refine x_sub [1, 0] rfl ?_
    exact F _ _ hSt V
  · replace F := F.2 q1
    refine x_iconst (v := 0) hM d_Mo_findFlaw_64 (by decide) ?_
    refine x_istore_n (lv2 := [(2, .int 0), (0, .ref (ad (40, 0, 0))), (1, .int v1)]) hM d_Mo_findFlaw_65 rfl (Nat.le_of_ble_eq_true rfl) rfl ?_
    refine x_sub [1, 2, 0] rfl ?_
    exact F _ _ hSt V
set_option maxRecDepth 100000 in
set_option maxHeartbeats 4000000 in
theorem T_Mo_findFlaw_66 {G : Gc} {M : Mc} {Q : State → Prop} {ad0 : Ro → Nat} {K : (Ro → Nat) → Option Value → Rs → Prop} (hG : gok G) (hM : mok G M r_Mo_findFlaw Q (KV G [] ad0 K)) (v1 : Int32) (v2 : Int32) (ρ : Rs) (F : ((3 * (iR ρ (40, 0, 0) 3)) ≤ v2 → (Y G [] ad0 M Q 56 (fun ad => [(0, .ref (ad (40, 0, 0))), (1, .int (v1 + 1))]) (fun ad => []) ρ)) ∧ (¬ (3 * (iR ρ (40, 0, 0) 3)) ≤ v2 → (vp_in v1 4096 ∧ (((iR ρ (41, 34, 0) (Int32.toNatClampNeg v1)) = 0 → (Y G [] ad0 M Q 56 (fun ad => [(0, .ref (ad (40, 0, 0))), (1, .int (v1 + 1))]) (fun ad => []) ρ)) ∧ (¬ (iR ρ (41, 34, 0) (Int32.toNatClampNeg v1)) = 0 → (vp_in ((36 * v1) + v2) 147456 ∧ (((iR ρ (41, 14, 0) (Int32.toNatClampNeg ((36 * v1) + v2))) = (-1) → (Y G [] ad0 M Q 66 (fun ad => [(0, .ref (ad (40, 0, 0))), (1, .int v1), (2, .int (v2 + 1))]) (fun ad => []) ρ)) ∧ (¬ (iR ρ (41, 14, 0) (Int32.toNatClampNeg ((36 * v1) + v2))) = (-1) → (vp_in (iR ρ (41, 14, 0) (Int32.toNatClampNeg ((36 * v1) + v2))) 4096 ∧ (((iR ρ (41, 34, 0) (Int32.toNatClampNeg (iR ρ (41, 14, 0) (Int32.toNatClampNeg ((36 * v1) + v2))))) = 0 → (∀ ρ4 : Rs, ρ4 = pI ρ (40, 0, 0) 35 v1 → (∀ ρ5 : Rs, ρ5 = pI ρ4 (40, 0, 0) 36 v2 → (∀ ad, K ad (some (.int 2)) ρ5)))) ∧ (¬ (iR ρ (41, 34, 0) (Int32.toNatClampNeg (iR ρ (41, 14, 0) (Int32.toNatClampNeg ((36 * v1) + v2))))) = 0 → (Y G [] ad0 M Q 66 (fun ad => [(0, .ref (ad (40, 0, 0))), (1, .int v1), (2, .int (v2 + 1))]) (fun ad => []) ρ)))))))))))) : Y G [] ad0 M Q 66 (fun ad => [(0, .ref (ad (40, 0, 0))), (1, .int v1), (2, .int v2)]) (fun ad => []) ρ := by
  intro ad h hSt V
  show X G M Q 66 [(0, .ref (ad (40, 0, 0))), (1, .int v1), (2, .int v2)] [] h
  refine x_iload_n hM d_Mo_findFlaw_66 rfl 2 rfl ?_
  refine x_iconst (v := 3) hM d_Mo_findFlaw_67 (by decide) ?_
  refine x_aload_n hM d_Mo_findFlaw_68 rfl 0 rfl ?_
  refine y_geti hG hM V ck_Mo 3 (Nat.le_of_ble_eq_true rfl) rfl rfl w_900 rfl d_Mo_findFlaw_69 (40, 0, 0) rfl rfl ?_
  refine x_imul hM d_Mo_findFlaw_72 ?_
  refine x_icmp_ge (tgt := 129) hM d_Mo_findFlaw_73 (by decide) (fun q9 => ?_) (fun q9 => ?_)
  · replace F := F.1 q9
    refine x_iinc (v := (v1 + 1)) (lv2 := [(1, .int (v1 + 1)), (0, .ref (ad (40, 0, 0))), (2, .int v2)]) hM d_Mo_findFlaw_129 (j := 1) rfl rfl (Nat.le_of_ble_eq_true rfl) rfl ?_
    refine x_goto (tgt := 56) hM d_Mo_findFlaw_132 (by decide) ?_
    refine x_sub [1, 0] rfl ?_
    exact F _ _ hSt V
  · replace F := F.2 q9
    refine x_aload_n hM d_Mo_findFlaw_76 rfl 0 rfl ?_
    refine y_getr hG hM V ck_Mo 34 (Nat.le_of_ble_eq_true rfl) rfl rfl w_931 rfl d_Mo_findFlaw_77 (40, 0, 0) (41, 34, 0) rfl rfl rfl ?_
    refine x_iload_n hM d_Mo_findFlaw_80 rfl 1 rfl ?_
    obtain ⟨c1, F⟩ := F
    refine y_zaload hG hM V d_Mo_findFlaw_81 (41, 34, 0) rfl rfl (by rw [vlen V (r := (41, 34, 0)) rfl rfl]; exact c1) ?_
    refine x_if_eq (tgt := 129) hM d_Mo_findFlaw_82 (by decide) (fun q8 => ?_) (fun q8 => ?_)
    · replace F := F.1 q8
      refine x_iinc (v := (v1 + 1)) (lv2 := [(1, .int (v1 + 1)), (0, .ref (ad (40, 0, 0))), (2, .int v2)]) hM d_Mo_findFlaw_129 (j := 1) rfl rfl (Nat.le_of_ble_eq_true rfl) rfl ?_
      refine x_goto (tgt := 56) hM d_Mo_findFlaw_132 (by decide) ?_
      refine x_sub [1, 0] rfl ?_
      exact F _ _ hSt V
    · replace F := F.2 q8
      refine x_aload_n hM d_Mo_findFlaw_85 rfl 0 rfl ?_
      refine y_getr hG hM V ck_Mo 14 (Nat.le_of_ble_eq_true rfl) rfl rfl w_911 rfl d_Mo_findFlaw_86 (40, 0, 0) (41, 14, 0) rfl rfl rfl ?_
      refine x_bipush (v := 36) hM d_Mo_findFlaw_89 (by decide) ?_
      refine x_iload_n hM d_Mo_findFlaw_91 rfl 1 rfl ?_
      refine x_imul hM d_Mo_findFlaw_92 ?_
      refine x_iload_n hM d_Mo_findFlaw_93 rfl 2 rfl ?_
      refine x_iadd hM d_Mo_findFlaw_94 ?_
      obtain ⟨c2, F⟩ := F
      refine y_iaload hG hM V d_Mo_findFlaw_95 (41, 14, 0) rfl rfl (by rw [vlen V (r := (41, 14, 0)) rfl rfl]; exact c2) ?_
      refine x_istore_n (lv2 := [(3, .int (iR ρ (41, 14, 0) (Int32.toNatClampNeg ((36 * v1) + v2)))), (0, .ref (ad (40, 0, 0))), (1, .int v1), (2, .int v2)]) hM d_Mo_findFlaw_96 rfl (Nat.le_of_ble_eq_true rfl) rfl ?_
      refine x_iload_n hM d_Mo_findFlaw_97 rfl 0 rfl ?_
      refine x_iconst (v := (-1)) hM d_Mo_findFlaw_98 (by decide) ?_
      refine x_icmp_eq (tgt := 123) hM d_Mo_findFlaw_99 (by decide) (fun q7 => ?_) (fun q7 => ?_)
      · replace F := F.1 q7
        refine x_iinc (v := (v2 + 1)) (lv2 := [(2, .int (v2 + 1)), (3, .int (iR ρ (41, 14, 0) (Int32.toNatClampNeg ((36 * v1) + v2)))), (0, .ref (ad (40, 0, 0))), (1, .int v1)]) hM d_Mo_findFlaw_123 (j := 3) rfl rfl (Nat.le_of_ble_eq_true rfl) rfl ?_
        refine x_goto (tgt := 66) hM d_Mo_findFlaw_126 (by decide) ?_
        refine x_sub [2, 3, 0] rfl ?_
        exact F _ _ hSt V
      · replace F := F.2 q7
        refine x_aload_n hM d_Mo_findFlaw_102 rfl 1 rfl ?_
        refine y_getr hG hM V ck_Mo 34 (Nat.le_of_ble_eq_true rfl) rfl rfl w_931 rfl d_Mo_findFlaw_103 (40, 0, 0) (41, 34, 0) rfl rfl rfl ?_
        refine x_iload_n hM d_Mo_findFlaw_106 rfl 0 rfl ?_
        obtain ⟨c3, F⟩ := F
        refine y_zaload hG hM V d_Mo_findFlaw_107 (41, 34, 0) rfl rfl (by rw [vlen V (r := (41, 34, 0)) rfl rfl]; exact c3) ?_
        refine x_if_ne (tgt := 123) hM d_Mo_findFlaw_108 (by decide) (fun q6 => ?_) (fun q6 => ?_)
        · replace F := F.2 q6
          refine x_iinc (v := (v2 + 1)) (lv2 := [(2, .int (v2 + 1)), (3, .int (iR ρ (41, 14, 0) (Int32.toNatClampNeg ((36 * v1) + v2)))), (0, .ref (ad (40, 0, 0))), (1, .int v1)]) hM d_Mo_findFlaw_123 (j := 3) rfl rfl (Nat.le_of_ble_eq_true rfl) rfl ?_
          refine x_goto (tgt := 66) hM d_Mo_findFlaw_126 (by decide) ?_
          refine x_sub [2, 3, 0] rfl ?_
          exact F _ _ hSt V
        · replace F := F.1 q6
          refine x_aload_n hM d_Mo_findFlaw_111 rfl 1 rfl ?_
          refine x_iload_n hM d_Mo_findFlaw_112 rfl 2 rfl ?_
          obtain ⟨ρ4, eρ4⟩ : ∃ z : Rs, z = pI ρ (40, 0, 0) 35 v1 := ⟨_, rfl⟩
          replace F := F ρ4 eρ4
          refine y_puti hG hM V ck_Mo 35 (Nat.le_of_ble_eq_true rfl) rfl rfl w_932 rfl d_Mo_findFlaw_113 rfl (40, 0, 0) rfl rfl (fun h V => ?_)
          rw [← eρ4] at V
          clear eρ4
          refine x_aload_n hM d_Mo_findFlaw_116 rfl 1 rfl ?_
          refine x_iload_n hM d_Mo_findFlaw_117 rfl 3 rfl ?_
          obtain ⟨ρ5, eρ5⟩ : ∃ z : Rs, z = pI ρ4 (40, 0, 0) 36 v2 := ⟨_, rfl⟩
          replace F := F ρ5 eρ5
          refine y_puti hG hM V ck_Mo 36 (Nat.le_of_ble_eq_true rfl) rfl rfl w_933 rfl d_Mo_findFlaw_118 rfl (40, 0, 0) rfl rfl (fun h V => ?_)
          rw [← eρ5] at V
          clear eρ5
          refine x_iconst (v := 2) hM d_Mo_findFlaw_121 (by decide) ?_
          exact x_ireturn hM d_Mo_findFlaw_122 rfl (y_end V hSt (F _))
set_option maxRecDepth 100000 in
set_option maxHeartbeats 4000000 in
theorem T_Mo_findFlaw_137 {G : Gc} {M : Mc} {Q : State → Prop} {ad0 : Ro → Nat} {K : (Ro → Nat) → Option Value → Rs → Prop} (hG : gok G) (hM : mok G M r_Mo_findFlaw Q (KV G [] ad0 K)) (v1 : Int32) (ρ : Rs) (F : ((iR ρ (40, 0, 0) 13) ≤ v1 → (∀ ad, K ad (some (.int 0)) ρ)) ∧ (¬ (iR ρ (40, 0, 0) 13) ≤ v1 → (vp_in v1 4096 ∧ (((iR ρ (41, 34, 0) (Int32.toNatClampNeg v1)) = 0 → (Y G [] ad0 M Q 137 (fun ad => [(0, .ref (ad (40, 0, 0))), (1, .int (v1 + 1))]) (fun ad => []) ρ)) ∧ (¬ (iR ρ (41, 34, 0) (Int32.toNatClampNeg v1)) = 0 → (vp_in v1 4096 ∧ (((iR ρ (41, 15, 0) (Int32.toNatClampNeg v1)) = 0 → (Y G [] ad0 M Q 137 (fun ad => [(0, .ref (ad (40, 0, 0))), (1, .int (v1 + 1))]) (fun ad => []) ρ)) ∧ (¬ (iR ρ (41, 15, 0) (Int32.toNatClampNeg v1)) = 0 → (∀ ρ3 : Rs, ρ3 = pI ρ (40, 0, 0) 35 v1 → (∀ ad, K ad (some (.int 3)) ρ3)))))))))) : Y G [] ad0 M Q 137 (fun ad => [(0, .ref (ad (40, 0, 0))), (1, .int v1)]) (fun ad => []) ρ := by
  intro ad h hSt V
  show X G M Q 137 [(0, .ref (ad (40, 0, 0))), (1, .int v1)] [] h
  refine x_iload_n hM d_Mo_findFlaw_137 rfl 1 rfl ?_
  refine x_aload_n hM d_Mo_findFlaw_138 rfl 0 rfl ?_
  refine y_geti hG hM V ck_Mo 13 (Nat.le_of_ble_eq_true rfl) rfl rfl w_910 rfl d_Mo_findFlaw_139 (40, 0, 0) rfl rfl ?_
  refine x_icmp_ge (tgt := 176) hM d_Mo_findFlaw_142 (by decide) (fun q6 => ?_) (fun q6 => ?_)
  · replace F := F.1 q6
    refine x_iconst (v := 0) hM d_Mo_findFlaw_176 (by decide) ?_
    exact x_ireturn hM d_Mo_findFlaw_177 rfl (y_end V hSt (F _))
  · replace F := F.2 q6
    refine x_aload_n hM d_Mo_findFlaw_145 rfl 0 rfl ?_
    refine y_getr hG hM V ck_Mo 34 (Nat.le_of_ble_eq_true rfl) rfl rfl w_931 rfl d_Mo_findFlaw_146 (40, 0, 0) (41, 34, 0) rfl rfl rfl ?_
    refine x_iload_n hM d_Mo_findFlaw_149 rfl 1 rfl ?_
    obtain ⟨c1, F⟩ := F
    refine y_zaload hG hM V d_Mo_findFlaw_150 (41, 34, 0) rfl rfl (by rw [vlen V (r := (41, 34, 0)) rfl rfl]; exact c1) ?_
    refine x_if_eq (tgt := 170) hM d_Mo_findFlaw_151 (by decide) (fun q5 => ?_) (fun q5 => ?_)
    · replace F := F.1 q5
      refine x_iinc (v := (v1 + 1)) (lv2 := [(1, .int (v1 + 1)), (0, .ref (ad (40, 0, 0)))]) hM d_Mo_findFlaw_170 (j := 1) rfl rfl (Nat.le_of_ble_eq_true rfl) rfl ?_
      refine x_goto (tgt := 137) hM d_Mo_findFlaw_173 (by decide) ?_
      refine x_sub [1, 0] rfl ?_
      exact F _ _ hSt V
    · replace F := F.2 q5
      refine x_aload_n hM d_Mo_findFlaw_154 rfl 0 rfl ?_
      refine y_getr hG hM V ck_Mo 15 (Nat.le_of_ble_eq_true rfl) rfl rfl w_912 rfl d_Mo_findFlaw_155 (40, 0, 0) (41, 15, 0) rfl rfl rfl ?_
      refine x_iload_n hM d_Mo_findFlaw_158 rfl 1 rfl ?_
      obtain ⟨c2, F⟩ := F
      refine y_zaload hG hM V d_Mo_findFlaw_159 (41, 15, 0) rfl rfl (by rw [vlen V (r := (41, 15, 0)) rfl rfl]; exact c2) ?_
      refine x_if_eq (tgt := 170) hM d_Mo_findFlaw_160 (by decide) (fun q4 => ?_) (fun q4 => ?_)
      · replace F := F.1 q4
        refine x_iinc (v := (v1 + 1)) (lv2 := [(1, .int (v1 + 1)), (0, .ref (ad (40, 0, 0)))]) hM d_Mo_findFlaw_170 (j := 1) rfl rfl (Nat.le_of_ble_eq_true rfl) rfl ?_
        refine x_goto (tgt := 137) hM d_Mo_findFlaw_173 (by decide) ?_
        refine x_sub [1, 0] rfl ?_
        exact F _ _ hSt V
      · replace F := F.2 q4
        refine x_aload_n hM d_Mo_findFlaw_163 rfl 0 rfl ?_
        refine x_iload_n hM d_Mo_findFlaw_164 rfl 1 rfl ?_
        obtain ⟨ρ3, eρ3⟩ : ∃ z : Rs, z = pI ρ (40, 0, 0) 35 v1 := ⟨_, rfl⟩
        replace F := F ρ3 eρ3
        refine y_puti hG hM V ck_Mo 35 (Nat.le_of_ble_eq_true rfl) rfl rfl w_932 rfl d_Mo_findFlaw_165 rfl (40, 0, 0) rfl rfl (fun h V => ?_)
        rw [← eρ3] at V
        clear eρ3
        refine x_iconst (v := 3) hM d_Mo_findFlaw_168 (by decide) ?_
        exact x_ireturn hM d_Mo_findFlaw_169 rfl (y_end V hSt (F _))
set_option maxRecDepth 100000 in
set_option maxHeartbeats 4000000 in
theorem T_Mo_isCovered_0 {G : Gc} {M : Mc} {Q : State → Prop} {ad0 : Ro → Nat} {K : (Ro → Nat) → Option Value → Rs → Prop} (hG : gok G) (hM : mok G M r_Mo_isCovered Q (KV G [] ad0 K)) (v1 : Int32) (ρ : Rs) (F : semV G r_Mo_open [] (fun ad => [.ref (ad (40, 0, 0)), .int v1]) ρ (fun ad u2 ρ1 => u2 = none ∧ (Y G [] ad0 M Q 7 (fun ad => [(0, .ref (ad (40, 0, 0))), (2, .int 0)]) (fun ad => []) ρ1))) : Y G [] ad0 M Q 0 (fun ad => [(0, .ref (ad (40, 0, 0))), (1, .int v1)]) (fun ad => []) ρ := by
  intro ad h hSt V
  show X G M Q 0 [(0, .ref (ad (40, 0, 0))), (1, .int v1)] [] h
  refine x_aload_n hM d_Mo_isCovered_0 rfl 0 rfl ?_
  refine x_iload_n hM d_Mo_isCovered_1 rfl 1 rfl ?_
  refine x_callV hG hM (r' := r_Mo_open) (ci := 11) [.int v1] rfl rfl (Nat.le_of_ble_eq_true rfl) yk_Mo_open ⟨Nat.le_of_ble_eq_true rfl, Nat.le_of_ble_eq_true rfl⟩ w_1092 w_1094 ws_Mo_open rfl rfl (Nat.le_of_ble_eq_true rfl) d_Mo_isCovered_2 (by rw [vT V rfl]; rfl) (sem_mono (F _ _ V) ?_)
  intro u2 h F
  obtain ⟨ad4, ρ1, V, hs3, F⟩ := F
  obtain ⟨rfl, F⟩ := F
  have hs3 := (St_eq hs3).symm
  subst hs3
  refine x_iconst (v := 0) hM d_Mo_isCovered_5 (by decide) ?_
  refine x_istore_n (lv2 := [(2, .int 0), (0, .ref (ad (40, 0, 0))), (1, .int v1)]) hM d_Mo_isCovered_6 rfl (Nat.le_of_ble_eq_true rfl) rfl ?_
  refine x_sub [1, 0] rfl ?_
  exact F _ _ hSt V
set_option maxRecDepth 100000 in
set_option maxHeartbeats 4000000 in
theorem T_Mo_isCovered_7 {G : Gc} {M : Mc} {Q : State → Prop} {ad0 : Ro → Nat} {K : (Ro → Nat) → Option Value → Rs → Prop} (hG : gok G) (hM : mok G M r_Mo_isCovered Q (KV G [] ad0 K)) (v2 : Int32) (ρ : Rs) (F : ((iR ρ (40, 0, 0) 9) ≤ v2 → (∀ ad, K ad (some (.int 0)) ρ)) ∧ (¬ (iR ρ (40, 0, 0) 9) ≤ v2 → (semV G r_Mo_hold [] (fun ad => [.ref (ad (40, 0, 0)), .int (13 + v2)]) ρ (fun ad u2 ρ1 => ∃ x4 : Int32, u2 = some (.int x4) ∧ ((x4 = 0 → (Y G [] ad0 M Q 7 (fun ad => [(0, .ref (ad (40, 0, 0))), (2, .int (v2 + 1))]) (fun ad => []) ρ1)) ∧ (¬ x4 = 0 → (∀ ad, K ad (some (.int 1)) ρ1))))))) : Y G [] ad0 M Q 7 (fun ad => [(0, .ref (ad (40, 0, 0))), (2, .int v2)]) (fun ad => []) ρ := by
  intro ad h hSt V
  show X G M Q 7 [(0, .ref (ad (40, 0, 0))), (2, .int v2)] [] h
  refine x_iload_n hM d_Mo_isCovered_7 rfl 1 rfl ?_
  refine x_aload_n hM d_Mo_isCovered_8 rfl 0 rfl ?_
  refine y_geti hG hM V ck_Mo 9 (Nat.le_of_ble_eq_true rfl) rfl rfl w_906 rfl d_Mo_isCovered_9 (40, 0, 0) rfl rfl ?_
  refine x_icmp_ge (tgt := 34) hM d_Mo_isCovered_12 (by decide) (fun q7 => ?_) (fun q7 => ?_)
  · replace F := F.1 q7
    refine x_iconst (v := 0) hM d_Mo_isCovered_34 (by decide) ?_
    exact x_zreturn hM d_Mo_isCovered_35 rfl (Or.inl rfl) (y_end V hSt (F _))
  · replace F := F.2 q7
    refine x_aload_n hM d_Mo_isCovered_15 rfl 0 rfl ?_
    refine x_bipush (v := 13) hM d_Mo_isCovered_16 (by decide) ?_
    refine x_iload_n hM d_Mo_isCovered_18 rfl 1 rfl ?_
    refine x_iadd hM d_Mo_isCovered_19 ?_
    refine x_callV hG hM (r' := r_Mo_hold) (ci := 11) [.int (13 + v2)] rfl rfl (Nat.le_of_ble_eq_true rfl) yk_Mo_hold ⟨Nat.le_of_ble_eq_true rfl, Nat.le_of_ble_eq_true rfl⟩ w_1096 w_1098 ws_Mo_hold rfl rfl (Nat.le_of_ble_eq_true rfl) d_Mo_isCovered_20 (by rw [vT V rfl]; rfl) (sem_mono (F _ _ V) ?_)
    intro u2 h F
    obtain ⟨ad6, ρ1, V, hs3, F⟩ := F
    obtain ⟨x4, rfl, F⟩ := F
    have hs3 := (St_eq hs3).symm
    subst hs3
    refine x_if_eq (tgt := 28) hM d_Mo_isCovered_23 (by decide) (fun q5 => ?_) (fun q5 => ?_)
    · replace F := F.1 q5
      refine x_iinc (v := (v2 + 1)) (lv2 := [(2, .int (v2 + 1)), (0, .ref (ad (40, 0, 0)))]) hM d_Mo_isCovered_28 (j := 1) rfl rfl (Nat.le_of_ble_eq_true rfl) rfl ?_
      refine x_goto (tgt := 7) hM d_Mo_isCovered_31 (by decide) ?_
      refine x_sub [1, 0] rfl ?_
      exact F _ _ hSt V
    · replace F := F.2 q5
      refine x_iconst (v := 1) hM d_Mo_isCovered_26 (by decide) ?_
      exact x_zreturn hM d_Mo_isCovered_27 rfl (Or.inr rfl) (y_end V hSt (F _))
