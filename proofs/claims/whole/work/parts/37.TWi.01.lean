set_option maxRecDepth 100000 in
set_option maxHeartbeats 4000000 in
theorem T_Wi_leastAct_0 {G : Gc} {M : Mc} {Q : State → Prop} {ad0 : Ro → Nat} {K : (Ro → Nat) → Option Value → Rs → Prop} (hG : gok G) (hM : mok G M r_Wi_leastAct Q (KV G [] ad0 K)) (g2 : Ro) (og2 : okR g2 = true) (tg2 : tgR g2 = 50) (v3 : Int32) (v4 : Int32) (ρ : Rs) (F : vp_in v3 (nR ρ g2) ∧ ((0 < (iR ρ g2 (Int32.toNatClampNeg v3)) → (Y G [] ad0 M Q 11 (fun ad => [(0, .ref (ad (6, 0, 0))), (1, .ref (ad (1, 0, 0))), (2, .ref (ad g2)), (3, .int v3), (4, .int v4), (5, .int 0)]) (fun ad => []) ρ)) ∧ (¬ 0 < (iR ρ g2 (Int32.toNatClampNeg v3)) → (∀ ad, K ad (some (.int (-1))) ρ)))) : Y G [] ad0 M Q 0 (fun ad => [(0, .ref (ad (6, 0, 0))), (1, .ref (ad (1, 0, 0))), (2, .ref (ad g2)), (3, .int v3), (4, .int v4)]) (fun ad => []) ρ := by
  intro ad h hSt V
  show X G M Q 0 [(0, .ref (ad (6, 0, 0))), (1, .ref (ad (1, 0, 0))), (2, .ref (ad g2)), (3, .int v3), (4, .int v4)] [] h
  refine x_aload_n hM d_Wi_leastAct_0 rfl 2 rfl ?_
  refine x_iload_n hM d_Wi_leastAct_1 rfl 3 rfl ?_
  obtain ⟨c1, F⟩ := F
  refine y_iaload hG hM V d_Wi_leastAct_2 g2 og2 tg2 c1 ?_
  refine x_if_gt (tgt := 8) hM d_Wi_leastAct_3 (by decide) (fun q2 => ?_) (fun q2 => ?_)
  · replace F := F.1 q2
    refine x_iconst (v := 0) hM d_Wi_leastAct_8 (by decide) ?_
    refine x_istore (lv2 := [(5, .int 0), (0, .ref (ad (6, 0, 0))), (1, .ref (ad (1, 0, 0))), (2, .ref (ad g2)), (3, .int v3), (4, .int v4)]) hM d_Wi_leastAct_9 (Nat.le_of_ble_eq_true rfl) rfl ?_
    refine x_sub [1, 2, 3, 4, 5, 0] rfl ?_
    exact F _ _ hSt V
  · replace F := F.2 q2
    refine x_iconst (v := (-1)) hM d_Wi_leastAct_6 (by decide) ?_
    exact x_ireturn hM d_Wi_leastAct_7 rfl (y_end V hSt (F _))
set_option maxRecDepth 100000 in
set_option maxHeartbeats 4000000 in
theorem T_Wi_leastAct_11 {G : Gc} {M : Mc} {Q : State → Prop} {ad0 : Ro → Nat} {K : (Ro → Nat) → Option Value → Rs → Prop} (hG : gok G) (hM : mok G M r_Wi_leastAct Q (KV G [] ad0 K)) (g2 : Ro) (og2 : okR g2 = true) (tg2 : tgR g2 = 50) (v3 : Int32) (v4 : Int32) (v5 : Int32) (ρ : Rs) (F : ((iR ρ (1, 0, 0) 2) ≤ v5 → (∀ ad, K ad (some (.int (-1))) ρ)) ∧ (¬ (iR ρ (1, 0, 0) 2) ≤ v5 → (vp_in v5 12 ∧ (semV G r_Ac_canBeDone [] (fun ad => [.ref (ad (20, (Int32.toNatClampNeg v5), 0)), .int v3]) ρ (fun ad u3 ρ2 => ∃ x5 : Int32, u3 = some (.int x5) ∧ ((x5 = 0 → (Y G [] ad0 M Q 11 (fun ad => [(0, .ref (ad (6, 0, 0))), (1, .ref (ad (1, 0, 0))), (2, .ref (ad g2)), (3, .int v3), (4, .int v4), (5, .int (v5 + 1))]) (fun ad => []) ρ2)) ∧ (¬ x5 = 0 → (vp_in v5 12 ∧ (semV G r_Wi_gives [] (fun ad => [.ref (ad (6, 0, 0)), .ref (ad (20, (Int32.toNatClampNeg v5), 0)), .ref (ad g2), .int v3, .int v4]) ρ2 (fun ad u8 ρ7 => ∃ x10 : Int32, u8 = some (.int x10) ∧ ((x10 = 0 → (Y G [] ad0 M Q 11 (fun ad => [(0, .ref (ad (6, 0, 0))), (1, .ref (ad (1, 0, 0))), (2, .ref (ad g2)), (3, .int v3), (4, .int v4), (5, .int (v5 + 1))]) (fun ad => []) ρ7)) ∧ (¬ x10 = 0 → (∀ ad, K ad (some (.int v5)) ρ7))))))))))))) : Y G [] ad0 M Q 11 (fun ad => [(0, .ref (ad (6, 0, 0))), (1, .ref (ad (1, 0, 0))), (2, .ref (ad g2)), (3, .int v3), (4, .int v4), (5, .int v5)]) (fun ad => []) ρ := by
  intro ad h hSt V
  show X G M Q 11 [(0, .ref (ad (6, 0, 0))), (1, .ref (ad (1, 0, 0))), (2, .ref (ad g2)), (3, .int v3), (4, .int v4), (5, .int v5)] [] h
  refine x_iload hM d_Wi_leastAct_11 5 rfl ?_
  refine x_aload_n hM d_Wi_leastAct_13 rfl 1 rfl ?_
  refine y_geti hG hM V ck_Wo 2 (Nat.le_of_ble_eq_true rfl) rfl rfl w_139 rfl d_Wi_leastAct_14 (1, 0, 0) rfl rfl ?_
  refine x_icmp_ge (tgt := 61) hM d_Wi_leastAct_17 (by decide) (fun q15 => ?_) (fun q15 => ?_)
  · replace F := F.1 q15
    refine x_iconst (v := (-1)) hM d_Wi_leastAct_61 (by decide) ?_
    exact x_ireturn hM d_Wi_leastAct_62 rfl (y_end V hSt (F _))
  · replace F := F.2 q15
    refine x_aload_n hM d_Wi_leastAct_20 rfl 1 rfl ?_
    refine y_getr hG hM V ck_Wo 5 (Nat.le_of_ble_eq_true rfl) rfl rfl w_148 rfl d_Wi_leastAct_21 (1, 0, 0) (30, 5, 0) rfl rfl rfl ?_
    refine x_iload hM d_Wi_leastAct_24 5 rfl ?_
    obtain ⟨c1, F⟩ := F
    refine y_acts hG hM V d_Wi_leastAct_26 c1 ?_
    refine x_iload_n hM d_Wi_leastAct_27 rfl 3 rfl ?_
    refine x_callV hG hM (r' := r_Ac_canBeDone) (ci := 2) [.int v3] rfl rfl (Nat.le_of_ble_eq_true rfl) yk_Ac_canBeDone ⟨Nat.le_of_ble_eq_true rfl, Nat.le_of_ble_eq_true rfl⟩ w_780 w_631 w_632 rfl rfl (Nat.le_of_ble_eq_true rfl) d_Wi_leastAct_28 (by rw [vT V (ok_ac (vp_lt c1))]; rfl) (sem_mono (F _ _ V) ?_)
    intro u3 h F
    obtain ⟨ad14, ρ2, V, hs4, F⟩ := F
    obtain ⟨x5, rfl, F⟩ := F
    have hs4 := (St_eq hs4).symm
    subst hs4
    refine x_if_eq (tgt := 55) hM d_Wi_leastAct_31 (by decide) (fun q13 => ?_) (fun q13 => ?_)
    · replace F := F.1 q13
      refine x_iinc (v := (v5 + 1)) (lv2 := [(5, .int (v5 + 1)), (0, .ref (ad (6, 0, 0))), (1, .ref (ad (1, 0, 0))), (2, .ref (ad g2)), (3, .int v3), (4, .int v4)]) hM d_Wi_leastAct_55 (j := 5) rfl rfl (Nat.le_of_ble_eq_true rfl) rfl ?_
      refine x_goto (tgt := 11) hM d_Wi_leastAct_58 (by decide) ?_
      refine x_sub [1, 2, 3, 4, 5, 0] rfl ?_
      exact F _ _ hSt V
    · replace F := F.2 q13
      refine x_aload_n hM d_Wi_leastAct_34 rfl 0 rfl ?_
      refine x_aload_n hM d_Wi_leastAct_35 rfl 1 rfl ?_
      refine y_getr hG hM V ck_Wo 5 (Nat.le_of_ble_eq_true rfl) rfl rfl w_148 rfl d_Wi_leastAct_36 (1, 0, 0) (30, 5, 0) rfl rfl rfl ?_
      refine x_iload hM d_Wi_leastAct_39 5 rfl ?_
      obtain ⟨c6, F⟩ := F
      refine y_acts hG hM V d_Wi_leastAct_41 c6 ?_
      refine x_aload_n hM d_Wi_leastAct_42 rfl 2 rfl ?_
      refine x_iload_n hM d_Wi_leastAct_43 rfl 3 rfl ?_
      refine x_iload hM d_Wi_leastAct_44 4 rfl ?_
      refine x_callV hG hM (r' := r_Wi_gives) (ci := 8) [.ref (ad (20, (Int32.toNatClampNeg v5), 0)), .ref (ad g2), .int v3, .int v4] rfl rfl (Nat.le_of_ble_eq_true rfl) yk_Wi_gives ⟨Nat.le_of_ble_eq_true rfl, Nat.le_of_ble_eq_true rfl⟩ w_781 w_783 ws_Wi_gives rfl rfl (Nat.le_of_ble_eq_true rfl) d_Wi_leastAct_46 (by rw [vT V rfl]; rfl) (sem_mono (F _ _ V) ?_)
      intro u8 h F
      obtain ⟨ad12, ρ7, V, hs9, F⟩ := F
      obtain ⟨x10, rfl, F⟩ := F
      have hs9 := (St_eq hs9).symm
      subst hs9
      refine x_if_eq (tgt := 55) hM d_Wi_leastAct_49 (by decide) (fun q11 => ?_) (fun q11 => ?_)
      · replace F := F.1 q11
        refine x_iinc (v := (v5 + 1)) (lv2 := [(5, .int (v5 + 1)), (0, .ref (ad (6, 0, 0))), (1, .ref (ad (1, 0, 0))), (2, .ref (ad g2)), (3, .int v3), (4, .int v4)]) hM d_Wi_leastAct_55 (j := 5) rfl rfl (Nat.le_of_ble_eq_true rfl) rfl ?_
        refine x_goto (tgt := 11) hM d_Wi_leastAct_58 (by decide) ?_
        refine x_sub [1, 2, 3, 4, 5, 0] rfl ?_
        exact F _ _ hSt V
      · replace F := F.2 q11
        refine x_iload hM d_Wi_leastAct_52 5 rfl ?_
        exact x_ireturn hM d_Wi_leastAct_54 rfl (y_end V hSt (F _))
set_option maxRecDepth 100000 in
set_option maxHeartbeats 4000000 in
theorem T_Wi_gives_0 {G : Gc} {M : Mc} {Q : State → Prop} {ad0 : Ro → Nat} {K : (Ro → Nat) → Option Value → Rs → Prop} (hG : gok G) (hM : mok G M r_Wi_gives Q (KV G [] ad0 K)) (a1 : Nat) (ha1 : a1 < 12) (g2 : Ro) (og2 : okR g2 = true) (tg2 : tgR g2 = 50) (v3 : Int32) (v4 : Int32) (ρ : Rs) (F : Y G [] ad0 M Q 9 (fun ad => [(1, .ref (ad (20, a1, 0))), (2, .ref (ad g2)), (3, .int v3), (4, .int v4), (5, .int 0), (6, .int 1), (7, .int 0)]) (fun ad => []) ρ) : Y G [] ad0 M Q 0 (fun ad => [(0, .ref (ad (6, 0, 0))), (1, .ref (ad (20, a1, 0))), (2, .ref (ad g2)), (3, .int v3), (4, .int v4)]) (fun ad => []) ρ := by
  intro ad h hSt V
  show X G M Q 0 [(0, .ref (ad (6, 0, 0))), (1, .ref (ad (20, a1, 0))), (2, .ref (ad g2)), (3, .int v3), (4, .int v4)] [] h
  refine x_iconst (v := 0) hM d_Wi_gives_0 (by decide) ?_
  refine x_istore (lv2 := [(5, .int 0), (0, .ref (ad (6, 0, 0))), (1, .ref (ad (20, a1, 0))), (2, .ref (ad g2)), (3, .int v3), (4, .int v4)]) hM d_Wi_gives_1 (Nat.le_of_ble_eq_true rfl) rfl ?_
  refine x_iconst (v := 1) hM d_Wi_gives_3 (by decide) ?_
  refine x_istore (lv2 := [(6, .int 1), (5, .int 0), (0, .ref (ad (6, 0, 0))), (1, .ref (ad (20, a1, 0))), (2, .ref (ad g2)), (3, .int v3), (4, .int v4)]) hM d_Wi_gives_4 (Nat.le_of_ble_eq_true rfl) rfl ?_
  refine x_iconst (v := 0) hM d_Wi_gives_6 (by decide) ?_
  refine x_istore (lv2 := [(7, .int 0), (6, .int 1), (5, .int 0), (0, .ref (ad (6, 0, 0))), (1, .ref (ad (20, a1, 0))), (2, .ref (ad g2)), (3, .int v3), (4, .int v4)]) hM d_Wi_gives_7 (Nat.le_of_ble_eq_true rfl) rfl ?_
  refine x_sub [4, 5, 6, 7, 2, 1, 0] rfl ?_
  exact F _ _ hSt V
set_option maxRecDepth 100000 in
set_option maxHeartbeats 4000000 in
theorem T_Wi_gives_9 {G : Gc} {M : Mc} {Q : State → Prop} {ad0 : Ro → Nat} {K : (Ro → Nat) → Option Value → Rs → Prop} (hG : gok G) (hM : mok G M r_Wi_gives Q (KV G [] ad0 K)) (a1 : Nat) (ha1 : a1 < 12) (g2 : Ro) (og2 : okR g2 = true) (tg2 : tgR g2 = 50) (v3 : Int32) (v4 : Int32) (v5 : Int32) (v6 : Int32) (v7 : Int32) (ρ : Rs) (F : ((iR ρ (20, a1, 0) 2) ≤ v7 → (∀ z4 : Int32, z4 = (if v5 = 0 then 0 else (if v6 = 0 then (if v4 = 1 then 1 else 0) else 1)) → (nb z4 ∧ (∀ ad, K ad (some (.int z4)) ρ)))) ∧ (¬ (iR ρ (20, a1, 0) 2) ≤ v7 → (vp_in v7 3 ∧ (vp_in v3 (nR ρ (23, a1, (Int32.toNatClampNeg v7))) ∧ (vp_in (iR ρ (23, a1, (Int32.toNatClampNeg v7)) (Int32.toNatClampNeg v3)) (nR ρ g2) ∧ ((¬ (iR ρ g2 (Int32.toNatClampNeg (iR ρ (23, a1, (Int32.toNatClampNeg v7)) (Int32.toNatClampNeg v3)))) = (-1) → vp_in v3 (nR ρ g2)) ∧ (∀ z12 : Int32, z12 = (if (iR ρ g2 (Int32.toNatClampNeg (iR ρ (23, a1, (Int32.toNatClampNeg v7)) (Int32.toNatClampNeg v3)))) = (-1) then 0 else (if (iR ρ g2 (Int32.toNatClampNeg v3)) ≤ (iR ρ g2 (Int32.toNatClampNeg (iR ρ (23, a1, (Int32.toNatClampNeg v7)) (Int32.toNatClampNeg v3)))) then 0 else 1)) → (∀ z13 : Int32, z13 = (if v4 = 2 then z12 else (if (iR ρ g2 (Int32.toNatClampNeg (iR ρ (23, a1, (Int32.toNatClampNeg v7)) (Int32.toNatClampNeg v3)))) = (-1) then 0 else 1)) → (Y G [] ad0 M Q 9 (fun ad => [(1, .ref (ad (20, a1, 0))), (2, .ref (ad g2)), (3, .int v3), (4, .int v4), (5, .int (v5 ||| z12)), (6, .int (v6 &&& z13)), (7, .int (v7 + 1))]) (fun ad => []) ρ))))))))) : Y G [] ad0 M Q 9 (fun ad => [(1, .ref (ad (20, a1, 0))), (2, .ref (ad g2)), (3, .int v3), (4, .int v4), (5, .int v5), (6, .int v6), (7, .int v7)]) (fun ad => []) ρ := by
  intro ad h hSt V
  show X G M Q 9 [(1, .ref (ad (20, a1, 0))), (2, .ref (ad g2)), (3, .int v3), (4, .int v4), (5, .int v5), (6, .int v6), (7, .int v7)] [] h
  refine x_iload hM d_Wi_gives_9 6 rfl ?_
  refine x_aload_n hM d_Wi_gives_11 rfl 0 rfl ?_
  refine y_geti hG hM V ck_Ac 2 (Nat.le_of_ble_eq_true rfl) rfl rfl w_108 rfl d_Wi_gives_12 (20, a1, 0) (ok_ac ha1) rfl ?_
  refine x_icmp_ge (tgt := 95) hM d_Wi_gives_15 (by decide) (fun q18 => ?_) (fun q18 => ?_)
  · replace F := F.1 q18
    refine x_iload hM d_Wi_gives_95 4 rfl ?_
    have JJ : ∀ (z4 : Int32) (ez4 : z4 = (if v5 = 0 then 0 else (if v6 = 0 then (if v4 = 1 then 1 else 0) else 1))), X G M Q 116 [] [.int z4] h := by
      intro z4 ez4
      replace F := F _ ez4
      exact x_zreturn hM d_Wi_gives_116 rfl F.1 (y_end V hSt (F.2 _))
    refine x_if_eq (tgt := 115) hM d_Wi_gives_97 (by decide) (fun q5 => ?_) (fun q5 => ?_)
    · refine x_iconst (v := 0) hM d_Wi_gives_115 (by decide) ?_
      refine x_sub [] rfl ?_
      exact JJ _ (Eq.symm (if_pos q5))
    · refine x_iload hM d_Wi_gives_100 5 rfl ?_
      refine x_if_ne (tgt := 111) hM d_Wi_gives_102 (by decide) (fun q6 => ?_) (fun q6 => ?_)
      · refine x_iconst (v := 1) hM d_Wi_gives_111 (by decide) ?_
        refine x_goto (tgt := 116) hM d_Wi_gives_112 (by decide) ?_
        refine x_sub [] rfl ?_
        exact JJ _ (Eq.symm (Eq.trans (if_neg q5) (if_neg q6)))
      · refine x_iload hM d_Wi_gives_105 3 rfl ?_
        refine x_iconst (v := 1) hM d_Wi_gives_107 (by decide) ?_
        refine x_icmp_ne (tgt := 115) hM d_Wi_gives_108 (by decide) (fun q7 => ?_) (fun q7 => ?_)
        · refine x_iconst (v := 0) hM d_Wi_gives_115 (by decide) ?_
          refine x_sub [] rfl ?_
          exact JJ _ (Eq.symm (Eq.trans (if_neg q5) (Eq.trans (if_pos q6) (if_neg q7))))
        · refine x_iconst (v := 1) hM d_Wi_gives_111 (by decide) ?_
          refine x_goto (tgt := 116) hM d_Wi_gives_112 (by decide) ?_
          refine x_sub [] rfl ?_
          exact JJ _ (Eq.symm (Eq.trans (if_neg q5) (Eq.trans (if_pos q6) (if_pos q7))))
  · replace F := F.2 q18
    refine x_aload_n hM d_Wi_gives_18 rfl 1 rfl ?_
    refine x_aload_n hM d_Wi_gives_19 rfl 0 rfl ?_
    refine y_getr hG hM V ck_Ac 1 (Nat.le_of_ble_eq_true rfl) rfl rfl w_100 rfl d_Wi_gives_20 (20, a1, 0) (21, a1, 0) (ok_ac ha1) rfl rfl ?_
    refine x_iload hM d_Wi_gives_23 6 rfl ?_
    obtain ⟨c8, F⟩ := F
    refine y_outs hG hM V d_Wi_gives_25 ha1 c8 ?_
    refine y_getr hG hM V ck_Ou 1 (Nat.le_of_ble_eq_true rfl) rfl rfl w_81 rfl d_Wi_gives_26 (22, a1, (Int32.toNatClampNeg v7)) (23, a1, (Int32.toNatClampNeg v7)) (ok_ou ha1 (vp_lt c8)) rfl rfl ?_
    refine x_iload_n hM d_Wi_gives_29 rfl 2 rfl ?_
    obtain ⟨c9, F⟩ := F
    refine y_iaload hG hM V d_Wi_gives_30 (23, a1, (Int32.toNatClampNeg v7)) (ok_to ha1 (vp_lt c8)) rfl c9 ?_
    obtain ⟨c10, F⟩ := F
    refine y_iaload hG hM V d_Wi_gives_31 g2 og2 tg2 c10 ?_
    refine x_istore (lv2 := [(8, .int (iR ρ g2 (Int32.toNatClampNeg (iR ρ (23, a1, (Int32.toNatClampNeg v7)) (Int32.toNatClampNeg v3))))), (1, .ref (ad (20, a1, 0))), (2, .ref (ad g2)), (3, .int v3), (4, .int v4), (5, .int v5), (6, .int v6), (7, .int v7)]) hM d_Wi_gives_32 (Nat.le_of_ble_eq_true rfl) rfl ?_
    refine x_iload hM d_Wi_gives_34 0 rfl ?_
    refine x_iconst (v := (-1)) hM d_Wi_gives_36 (by decide) ?_
    obtain ⟨S, F⟩ := F
    have JJ : ∀ (z12 : Int32) (ez12 : z12 = (if (iR ρ g2 (Int32.toNatClampNeg (iR ρ (23, a1, (Int32.toNatClampNeg v7)) (Int32.toNatClampNeg v3)))) = (-1) then 0 else (if (iR ρ g2 (Int32.toNatClampNeg v3)) ≤ (iR ρ g2 (Int32.toNatClampNeg (iR ρ (23, a1, (Int32.toNatClampNeg v7)) (Int32.toNatClampNeg v3)))) then 0 else 1))), X G M Q 53 [(1, .ref (ad (20, a1, 0))), (2, .ref (ad g2)), (3, .int v3), (4, .int v4), (5, .int v5), (6, .int v6), (7, .int v7), (8, .int (iR ρ g2 (Int32.toNatClampNeg (iR ρ (23, a1, (Int32.toNatClampNeg v7)) (Int32.toNatClampNeg v3)))))] [.int z12] h := by
      intro z12 ez12
      replace F := F _ ez12
      refine x_istore (lv2 := [(9, .int z12), (1, .ref (ad (20, a1, 0))), (2, .ref (ad g2)), (3, .int v3), (4, .int v4), (5, .int v5), (6, .int v6), (7, .int v7), (8, .int (iR ρ g2 (Int32.toNatClampNeg (iR ρ (23, a1, (Int32.toNatClampNeg v7)) (Int32.toNatClampNeg v3)))))]) hM d_Wi_gives_53 (Nat.le_of_ble_eq_true rfl) rfl ?_
      refine x_iload hM d_Wi_gives_55 5 rfl ?_
      refine x_iload hM d_Wi_gives_57 0 rfl ?_
      refine x_ior hM d_Wi_gives_59 ?_
      refine x_istore (lv2 := [(5, .int (v5 ||| z12)), (9, .int z12), (1, .ref (ad (20, a1, 0))), (2, .ref (ad g2)), (3, .int v3), (4, .int v4), (6, .int v6), (7, .int v7), (8, .int (iR ρ g2 (Int32.toNatClampNeg (iR ρ (23, a1, (Int32.toNatClampNeg v7)) (Int32.toNatClampNeg v3)))))]) hM d_Wi_gives_60 (Nat.le_of_ble_eq_true rfl) rfl ?_
      refine x_iload hM d_Wi_gives_62 6 rfl ?_
      refine x_iload hM d_Wi_gives_64 5 rfl ?_
      refine x_iconst (v := 2) hM d_Wi_gives_66 (by decide) ?_
      have JJ : ∀ (z13 : Int32) (ez13 : z13 = (if v4 = 2 then z12 else (if (iR ρ g2 (Int32.toNatClampNeg (iR ρ (23, a1, (Int32.toNatClampNeg v7)) (Int32.toNatClampNeg v3)))) = (-1) then 0 else 1))), X G M Q 86 [(1, .ref (ad (20, a1, 0))), (2, .ref (ad g2)), (3, .int v3), (4, .int v4), (5, .int (v5 ||| z12)), (7, .int v7)] [.int z13, .int v6] h := by
        intro z13 ez13
        replace F := F _ ez13
        refine x_iand hM d_Wi_gives_86 ?_
        refine x_istore (lv2 := [(6, .int (v6 &&& z13)), (1, .ref (ad (20, a1, 0))), (2, .ref (ad g2)), (3, .int v3), (4, .int v4), (5, .int (v5 ||| z12)), (7, .int v7)]) hM d_Wi_gives_87 (Nat.le_of_ble_eq_true rfl) rfl ?_
        refine x_iinc (v := (v7 + 1)) (lv2 := [(7, .int (v7 + 1)), (6, .int (v6 &&& z13)), (1, .ref (ad (20, a1, 0))), (2, .ref (ad g2)), (3, .int v3), (4, .int v4), (5, .int (v5 ||| z12))]) hM d_Wi_gives_89 (j := 6) rfl rfl (Nat.le_of_ble_eq_true rfl) rfl ?_
        refine x_goto (tgt := 9) hM d_Wi_gives_92 (by decide) ?_
        refine x_sub [2, 3, 4, 5, 6, 1, 0] rfl ?_
        exact F _ _ hSt V
      refine x_icmp_ne (tgt := 75) hM d_Wi_gives_67 (by decide) (fun q14 => ?_) (fun q14 => ?_)
      · refine x_iload hM d_Wi_gives_75 8 rfl ?_
        refine x_iconst (v := (-1)) hM d_Wi_gives_77 (by decide) ?_
        refine x_icmp_eq (tgt := 85) hM d_Wi_gives_78 (by decide) (fun q15 => ?_) (fun q15 => ?_)
        · refine x_iconst (v := 0) hM d_Wi_gives_85 (by decide) ?_
          refine x_sub [2, 3, 4, 5, 0, 7] rfl ?_
          exact JJ _ (Eq.symm (Eq.trans (if_neg q14) (if_pos q15)))
        · refine x_iconst (v := 1) hM d_Wi_gives_81 (by decide) ?_
          refine x_goto (tgt := 86) hM d_Wi_gives_82 (by decide) ?_
          refine x_sub [2, 3, 4, 5, 0, 7] rfl ?_
          exact JJ _ (Eq.symm (Eq.trans (if_neg q14) (if_neg q15)))
      · refine x_iload hM d_Wi_gives_70 1 rfl ?_
        refine x_goto (tgt := 86) hM d_Wi_gives_72 (by decide) ?_
        refine x_sub [2, 3, 4, 5, 0, 7] rfl ?_
        exact JJ _ (Eq.symm (if_pos q14))
    refine x_icmp_eq (tgt := 52) hM d_Wi_gives_37 (by decide) (fun q16 => ?_) (fun q16 => ?_)
    · refine x_iconst (v := 0) hM d_Wi_gives_52 (by decide) ?_
      refine x_sub [1, 2, 3, 4, 5, 6, 7, 0] rfl ?_
      exact JJ _ (Eq.symm (if_pos q16))
    · replace S := S q16
      refine x_iload hM d_Wi_gives_40 0 rfl ?_
      refine x_aload_n hM d_Wi_gives_42 rfl 2 rfl ?_
      refine x_iload_n hM d_Wi_gives_43 rfl 3 rfl ?_
      have c11 := S
      refine y_iaload hG hM V d_Wi_gives_44 g2 og2 tg2 c11 ?_
      refine x_icmp_ge (tgt := 52) hM d_Wi_gives_45 (by decide) (fun q17 => ?_) (fun q17 => ?_)
      · refine x_iconst (v := 0) hM d_Wi_gives_52 (by decide) ?_
        refine x_sub [1, 2, 3, 4, 5, 6, 7, 0] rfl ?_
        exact JJ _ (Eq.symm (Eq.trans (if_neg q16) (if_pos q17)))
      · refine x_iconst (v := 1) hM d_Wi_gives_48 (by decide) ?_
        refine x_goto (tgt := 53) hM d_Wi_gives_49 (by decide) ?_
        refine x_sub [1, 2, 3, 4, 5, 6, 7, 0] rfl ?_
        exact JJ _ (Eq.symm (Eq.trans (if_neg q16) (if_neg q17)))
set_option maxRecDepth 100000 in
set_option maxHeartbeats 4000000 in
theorem T_Wi_firstStep_0 {G : Gc} {M : Mc} {Q : State → Prop} {ad0 : Ro → Nat} {K : (Ro → Nat) → Option Value → Rs → Prop} (hG : gok G) (hM : mok G M r_Wi_firstStep Q (KV G [] ad0 K)) (v2 : Int32) (ρ : Rs) (F : Y G [] ad0 M Q 2 (fun ad => [(0, .ref (ad (6, 0, 0))), (1, .ref (ad (1, 0, 0))), (2, .int v2), (3, .int 0)]) (fun ad => []) ρ) : Y G [] ad0 M Q 0 (fun ad => [(0, .ref (ad (6, 0, 0))), (1, .ref (ad (1, 0, 0))), (2, .int v2)]) (fun ad => []) ρ := by
  intro ad h hSt V
  show X G M Q 0 [(0, .ref (ad (6, 0, 0))), (1, .ref (ad (1, 0, 0))), (2, .int v2)] [] h
  refine x_iconst (v := 0) hM d_Wi_firstStep_0 (by decide) ?_
  refine x_istore_n (lv2 := [(3, .int 0), (0, .ref (ad (6, 0, 0))), (1, .ref (ad (1, 0, 0))), (2, .int v2)]) hM d_Wi_firstStep_1 rfl (Nat.le_of_ble_eq_true rfl) rfl ?_
  refine x_sub [1, 2, 3, 0] rfl ?_
  exact F _ _ hSt V
set_option maxRecDepth 100000 in
set_option maxHeartbeats 4000000 in
theorem T_Wi_firstStep_2 {G : Gc} {M : Mc} {Q : State → Prop} {ad0 : Ro → Nat} {K : (Ro → Nat) → Option Value → Rs → Prop} (hG : gok G) (hM : mok G M r_Wi_firstStep Q (KV G [] ad0 K)) (v2 : Int32) (v3 : Int32) (ρ : Rs) (F : ((iR ρ (1, 0, 0) 2) ≤ v3 → (∀ ad, K ad (some (.int (-1))) ρ)) ∧ (¬ (iR ρ (1, 0, 0) 2) ≤ v3 → (vp_in v3 12 ∧ (Y G [] ad0 M Q 21 (fun ad => [(0, .ref (ad (6, 0, 0))), (1, .ref (ad (1, 0, 0))), (2, .int v2), (3, .int v3), (4, .ref (ad (20, (Int32.toNatClampNeg v3), 0))), (5, .int 0)]) (fun ad => []) ρ)))) : Y G [] ad0 M Q 2 (fun ad => [(0, .ref (ad (6, 0, 0))), (1, .ref (ad (1, 0, 0))), (2, .int v2), (3, .int v3)]) (fun ad => []) ρ := by
  intro ad h hSt V
  show X G M Q 2 [(0, .ref (ad (6, 0, 0))), (1, .ref (ad (1, 0, 0))), (2, .int v2), (3, .int v3)] [] h
  refine x_iload_n hM d_Wi_firstStep_2 rfl 3 rfl ?_
  refine x_aload_n hM d_Wi_firstStep_3 rfl 1 rfl ?_
  refine y_geti hG hM V ck_Wo 2 (Nat.le_of_ble_eq_true rfl) rfl rfl w_139 rfl d_Wi_firstStep_4 (1, 0, 0) rfl rfl ?_
  refine x_icmp_ge (tgt := 99) hM d_Wi_firstStep_7 (by decide) (fun q2 => ?_) (fun q2 => ?_)
  · replace F := F.1 q2
    refine x_iconst (v := (-1)) hM d_Wi_firstStep_99 (by decide) ?_
    exact x_ireturn hM d_Wi_firstStep_100 rfl (y_end V hSt (F _))
  · replace F := F.2 q2
    refine x_aload_n hM d_Wi_firstStep_10 rfl 1 rfl ?_
    refine y_getr hG hM V ck_Wo 5 (Nat.le_of_ble_eq_true rfl) rfl rfl w_148 rfl d_Wi_firstStep_11 (1, 0, 0) (30, 5, 0) rfl rfl rfl ?_
    refine x_iload_n hM d_Wi_firstStep_14 rfl 3 rfl ?_
    obtain ⟨c1, F⟩ := F
    refine y_acts hG hM V d_Wi_firstStep_15 c1 ?_
    refine x_astore (lv2 := [(4, .ref (ad (20, (Int32.toNatClampNeg v3), 0))), (0, .ref (ad (6, 0, 0))), (1, .ref (ad (1, 0, 0))), (2, .int v2), (3, .int v3)]) hM d_Wi_firstStep_16 (Nat.le_of_ble_eq_true rfl) rfl ?_
    refine x_iconst (v := 0) hM d_Wi_firstStep_18 (by decide) ?_
    refine x_istore (lv2 := [(5, .int 0), (4, .ref (ad (20, (Int32.toNatClampNeg v3), 0))), (0, .ref (ad (6, 0, 0))), (1, .ref (ad (1, 0, 0))), (2, .int v2), (3, .int v3)]) hM d_Wi_firstStep_19 (Nat.le_of_ble_eq_true rfl) rfl ?_
    refine x_sub [2, 3, 4, 5, 1, 0] rfl ?_
    exact F _ _ hSt V
set_option maxRecDepth 100000 in
set_option maxHeartbeats 4000000 in
theorem T_Wi_firstStep_21 {G : Gc} {M : Mc} {Q : State → Prop} {ad0 : Ro → Nat} {K : (Ro → Nat) → Option Value → Rs → Prop} (hG : gok G) (hM : mok G M r_Wi_firstStep Q (KV G [] ad0 K)) (v2 : Int32) (v3 : Int32) (a4 : Nat) (ha4 : a4 < 12) (v5 : Int32) (ρ : Rs) (F : ((iR ρ (20, a4, 0) 2) ≤ v5 → (Y G [] ad0 M Q 2 (fun ad => [(0, .ref (ad (6, 0, 0))), (1, .ref (ad (1, 0, 0))), (2, .int v2), (3, .int (v3 + 1))]) (fun ad => []) ρ)) ∧ (¬ (iR ρ (20, a4, 0) 2) ≤ v5 → (vp_in v5 3 ∧ (vp_in v2 (nR ρ (23, a4, (Int32.toNatClampNeg v5))) ∧ (((iR ρ (23, a4, (Int32.toNatClampNeg v5)) (Int32.toNatClampNeg v2)) = (-1) → (Y G [] ad0 M Q 21 (fun ad => [(0, .ref (ad (6, 0, 0))), (1, .ref (ad (1, 0, 0))), (2, .int v2), (3, .int v3), (4, .ref (ad (20, a4, 0))), (5, .int (v5 + 1))]) (fun ad => []) ρ)) ∧ (¬ (iR ρ (23, a4, (Int32.toNatClampNeg v5)) (Int32.toNatClampNeg v2)) = (-1) → (vp_in (iR ρ (23, a4, (Int32.toNatClampNeg v5)) (Int32.toNatClampNeg v2)) (nR ρ (33, 3, 0)) ∧ (((iR ρ (33, 3, 0) (Int32.toNatClampNeg (iR ρ (23, a4, (Int32.toNatClampNeg v5)) (Int32.toNatClampNeg v2)))) = (-1) → (Y G [] ad0 M Q 21 (fun ad => [(0, .ref (ad (6, 0, 0))), (1, .ref (ad (1, 0, 0))), (2, .int v2), (3, .int v3), (4, .ref (ad (20, a4, 0))), (5, .int (v5 + 1))]) (fun ad => []) ρ)) ∧ (¬ (iR ρ (33, 3, 0) (Int32.toNatClampNeg (iR ρ (23, a4, (Int32.toNatClampNeg v5)) (Int32.toNatClampNeg v2)))) = (-1) → (vp_in (iR ρ (23, a4, (Int32.toNatClampNeg v5)) (Int32.toNatClampNeg v2)) (nR ρ (33, 3, 0)) ∧ (vp_in v2 (nR ρ (33, 3, 0)) ∧ (((iR ρ (33, 3, 0) (Int32.toNatClampNeg v2)) ≤ (iR ρ (33, 3, 0) (Int32.toNatClampNeg (iR ρ (23, a4, (Int32.toNatClampNeg v5)) (Int32.toNatClampNeg v2)))) → (Y G [] ad0 M Q 21 (fun ad => [(0, .ref (ad (6, 0, 0))), (1, .ref (ad (1, 0, 0))), (2, .int v2), (3, .int v3), (4, .ref (ad (20, a4, 0))), (5, .int (v5 + 1))]) (fun ad => []) ρ)) ∧ (¬ (iR ρ (33, 3, 0) (Int32.toNatClampNeg v2)) ≤ (iR ρ (33, 3, 0) (Int32.toNatClampNeg (iR ρ (23, a4, (Int32.toNatClampNeg v5)) (Int32.toNatClampNeg v2)))) → (semV G r_WP_edgeOf [] (fun ad => [.int v3, .int v5, .int v2]) ρ (fun ad u7 ρ6 => ∃ x9 : Int32, u7 = some (.int x9) ∧ (∀ ad, K ad (some (.int x9)) ρ6)))))))))))))))) : Y G [] ad0 M Q 21 (fun ad => [(0, .ref (ad (6, 0, 0))), (1, .ref (ad (1, 0, 0))), (2, .int v2), (3, .int v3), (4, .ref (ad (20, a4, 0))), (5, .int v5)]) (fun ad => []) ρ := by
  intro ad h hSt V
  show X G M Q 21 [(0, .ref (ad (6, 0, 0))), (1, .ref (ad (1, 0, 0))), (2, .int v2), (3, .int v3), (4, .ref (ad (20, a4, 0))), (5, .int v5)] [] h
  refine x_iload hM d_Wi_firstStep_21 5 rfl ?_
  refine x_aload hM d_Wi_firstStep_23 4 rfl ?_
  refine y_geti hG hM V ck_Ac 2 (Nat.le_of_ble_eq_true rfl) rfl rfl w_108 rfl d_Wi_firstStep_25 (20, a4, 0) (ok_ac ha4) rfl ?_
  refine x_icmp_ge (tgt := 93) hM d_Wi_firstStep_28 (by decide) (fun q14 => ?_) (fun q14 => ?_)
  · replace F := F.1 q14
    refine x_iinc (v := (v3 + 1)) (lv2 := [(3, .int (v3 + 1)), (0, .ref (ad (6, 0, 0))), (1, .ref (ad (1, 0, 0))), (2, .int v2), (4, .ref (ad (20, a4, 0))), (5, .int v5)]) hM d_Wi_firstStep_93 (j := 3) rfl rfl (Nat.le_of_ble_eq_true rfl) rfl ?_
    refine x_goto (tgt := 2) hM d_Wi_firstStep_96 (by decide) ?_
    refine x_sub [1, 2, 3, 0] rfl ?_
    exact F _ _ hSt V
  · replace F := F.2 q14
    refine x_aload hM d_Wi_firstStep_31 4 rfl ?_
    refine y_getr hG hM V ck_Ac 1 (Nat.le_of_ble_eq_true rfl) rfl rfl w_100 rfl d_Wi_firstStep_33 (20, a4, 0) (21, a4, 0) (ok_ac ha4) rfl rfl ?_
    refine x_iload hM d_Wi_firstStep_36 5 rfl ?_
    obtain ⟨c1, F⟩ := F
    refine y_outs hG hM V d_Wi_firstStep_38 ha4 c1 ?_
    refine y_getr hG hM V ck_Ou 1 (Nat.le_of_ble_eq_true rfl) rfl rfl w_81 rfl d_Wi_firstStep_39 (22, a4, (Int32.toNatClampNeg v5)) (23, a4, (Int32.toNatClampNeg v5)) (ok_ou ha4 (vp_lt c1)) rfl rfl ?_
    refine x_iload_n hM d_Wi_firstStep_42 rfl 2 rfl ?_
    obtain ⟨c2, F⟩ := F
    refine y_iaload hG hM V d_Wi_firstStep_43 (23, a4, (Int32.toNatClampNeg v5)) (ok_to ha4 (vp_lt c1)) rfl c2 ?_
    refine x_istore (lv2 := [(6, .int (iR ρ (23, a4, (Int32.toNatClampNeg v5)) (Int32.toNatClampNeg v2))), (0, .ref (ad (6, 0, 0))), (1, .ref (ad (1, 0, 0))), (2, .int v2), (3, .int v3), (4, .ref (ad (20, a4, 0))), (5, .int v5)]) hM d_Wi_firstStep_44 (Nat.le_of_ble_eq_true rfl) rfl ?_
    refine x_iload hM d_Wi_firstStep_46 0 rfl ?_
    refine x_iconst (v := (-1)) hM d_Wi_firstStep_48 (by decide) ?_
    refine x_icmp_eq (tgt := 87) hM d_Wi_firstStep_49 (by decide) (fun q13 => ?_) (fun q13 => ?_)
    · replace F := F.1 q13
      refine x_iinc (v := (v5 + 1)) (lv2 := [(5, .int (v5 + 1)), (6, .int (iR ρ (23, a4, (Int32.toNatClampNeg v5)) (Int32.toNatClampNeg v2))), (0, .ref (ad (6, 0, 0))), (1, .ref (ad (1, 0, 0))), (2, .int v2), (3, .int v3), (4, .ref (ad (20, a4, 0)))]) hM d_Wi_firstStep_87 (j := 6) rfl rfl (Nat.le_of_ble_eq_true rfl) rfl ?_
      refine x_goto (tgt := 21) hM d_Wi_firstStep_90 (by decide) ?_
      refine x_sub [2, 3, 4, 5, 6, 0] rfl ?_
      exact F _ _ hSt V
    · replace F := F.2 q13
      refine x_aload_n hM d_Wi_firstStep_52 rfl 1 rfl ?_
      refine y_getr hG hM V ck_Wi 3 (Nat.le_of_ble_eq_true rfl) rfl rfl w_289 rfl d_Wi_firstStep_53 (6, 0, 0) (33, 3, 0) rfl rfl rfl ?_
      refine x_iload hM d_Wi_firstStep_56 0 rfl ?_
      obtain ⟨c3, F⟩ := F
      refine y_iaload hG hM V d_Wi_firstStep_58 (33, 3, 0) rfl rfl c3 ?_
      refine x_iconst (v := (-1)) hM d_Wi_firstStep_59 (by decide) ?_
      refine x_icmp_eq (tgt := 87) hM d_Wi_firstStep_60 (by decide) (fun q12 => ?_) (fun q12 => ?_)
      · replace F := F.1 q12
        refine x_iinc (v := (v5 + 1)) (lv2 := [(5, .int (v5 + 1)), (6, .int (iR ρ (23, a4, (Int32.toNatClampNeg v5)) (Int32.toNatClampNeg v2))), (0, .ref (ad (6, 0, 0))), (1, .ref (ad (1, 0, 0))), (2, .int v2), (3, .int v3), (4, .ref (ad (20, a4, 0)))]) hM d_Wi_firstStep_87 (j := 6) rfl rfl (Nat.le_of_ble_eq_true rfl) rfl ?_
        refine x_goto (tgt := 21) hM d_Wi_firstStep_90 (by decide) ?_
        refine x_sub [2, 3, 4, 5, 6, 0] rfl ?_
        exact F _ _ hSt V
      · replace F := F.2 q12
        refine x_aload_n hM d_Wi_firstStep_63 rfl 1 rfl ?_
        refine y_getr hG hM V ck_Wi 3 (Nat.le_of_ble_eq_true rfl) rfl rfl w_289 rfl d_Wi_firstStep_64 (6, 0, 0) (33, 3, 0) rfl rfl rfl ?_
        refine x_iload hM d_Wi_firstStep_67 0 rfl ?_
        obtain ⟨c4, F⟩ := F
        refine y_iaload hG hM V d_Wi_firstStep_69 (33, 3, 0) rfl rfl c4 ?_
        refine x_aload_n hM d_Wi_firstStep_70 rfl 1 rfl ?_
        refine y_getr hG hM V ck_Wi 3 (Nat.le_of_ble_eq_true rfl) rfl rfl w_289 rfl d_Wi_firstStep_71 (6, 0, 0) (33, 3, 0) rfl rfl rfl ?_
        refine x_iload_n hM d_Wi_firstStep_74 rfl 3 rfl ?_
        obtain ⟨c5, F⟩ := F
        refine y_iaload hG hM V d_Wi_firstStep_75 (33, 3, 0) rfl rfl c5 ?_
        refine x_icmp_ge (tgt := 87) hM d_Wi_firstStep_76 (by decide) (fun q11 => ?_) (fun q11 => ?_)
        · replace F := F.1 q11
          refine x_iinc (v := (v5 + 1)) (lv2 := [(5, .int (v5 + 1)), (6, .int (iR ρ (23, a4, (Int32.toNatClampNeg v5)) (Int32.toNatClampNeg v2))), (0, .ref (ad (6, 0, 0))), (1, .ref (ad (1, 0, 0))), (2, .int v2), (3, .int v3), (4, .ref (ad (20, a4, 0)))]) hM d_Wi_firstStep_87 (j := 6) rfl rfl (Nat.le_of_ble_eq_true rfl) rfl ?_
          refine x_goto (tgt := 21) hM d_Wi_firstStep_90 (by decide) ?_
          refine x_sub [2, 3, 4, 5, 6, 0] rfl ?_
          exact F _ _ hSt V
        · replace F := F.2 q11
          refine x_iload_n hM d_Wi_firstStep_79 rfl 4 rfl ?_
          refine x_iload hM d_Wi_firstStep_80 6 rfl ?_
          refine x_iload_n hM d_Wi_firstStep_82 rfl 3 rfl ?_
          refine x_callSN hG hM (r' := r_WP_edgeOf) [.int v3, .int v5, .int v2] rfl yk_WP_edgeOf ⟨Nat.le_of_ble_eq_true rfl, Nat.le_of_ble_eq_true rfl⟩ w_793 w_610 rfl rfl (Nat.le_of_ble_eq_true rfl) d_Wi_firstStep_83 (sem_mono (F _ _ V) ?_)
          intro u7 h F
          obtain ⟨ad10, ρ6, V, hs8, F⟩ := F
          obtain ⟨x9, rfl, F⟩ := F
          have hs8 := (St_eq hs8).symm
          subst hs8
          exact x_ireturn hM d_Wi_firstStep_86 rfl (y_end V hSt (F _))
