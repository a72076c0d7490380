set_option maxRecDepth 100000 in
set_option maxHeartbeats 4000000 in
theorem T_Mo_isOneWay_0 {G : Gc} {M : Mc} {Q : State → Prop} {ad0 : Ro → Nat} {K : (Ro → Nat) → Option Value → Rs → Prop} (hG : gok G) (hM : mok G M r_Mo_isOneWay Q (KV G [] ad0 K)) (v1 : Int32) (v2 : Int32) (v3 : Int32) (ρ : Rs) (F : Y G [] ad0 M Q 3 (fun ad => [(0, .ref (ad (40, 0, 0))), (1, .int v1), (2, .int v2), (3, .int v3), (4, .int 0)]) (fun ad => []) ρ) : Y G [] ad0 M Q 0 (fun ad => [(0, .ref (ad (40, 0, 0))), (1, .int v1), (2, .int v2), (3, .int v3)]) (fun ad => []) ρ := by
  intro ad h hSt V
  show X G M Q 0 [(0, .ref (ad (40, 0, 0))), (1, .int v1), (2, .int v2), (3, .int v3)] [] h
  refine x_iconst (v := 0) hM d_Mo_isOneWay_0 (by decide) ?_
  refine x_istore (lv2 := [(4, .int 0), (0, .ref (ad (40, 0, 0))), (1, .int v1), (2, .int v2), (3, .int v3)]) hM d_Mo_isOneWay_1 (Nat.le_of_ble_eq_true rfl) rfl ?_
  refine x_sub [1, 2, 3, 4, 0] rfl ?_
  exact F _ _ hSt V
set_option maxRecDepth 100000 in
set_option maxHeartbeats 4000000 in
theorem T_Mo_isOneWay_3 {G : Gc} {M : Mc} {Q : State → Prop} {ad0 : Ro → Nat} {K : (Ro → Nat) → Option Value → Rs → Prop} (hG : gok G) (hM : mok G M r_Mo_isOneWay Q (KV G [] ad0 K)) (v1 : Int32) (v2 : Int32) (v3 : Int32) (v4 : Int32) (ρ : Rs) (F : vp_in v3 12 ∧ (((iR ρ (41, 4, 0) (Int32.toNatClampNeg v3)) ≤ v4 → (∀ ad, K ad (some (.int 1)) ρ)) ∧ (¬ (iR ρ (41, 4, 0) (Int32.toNatClampNeg v3)) ≤ v4 → (vp_in (((36 * v1) + (3 * v3)) + v4) 147456 ∧ (vp_in (((36 * v2) + (3 * v3)) + v4) 147456 ∧ (((iR ρ (41, 14, 0) (Int32.toNatClampNeg (((36 * v1) + (3 * v3)) + v4))) = (-1) → (∀ z4 : Int32, z4 = (if (iR ρ (41, 14, 0) (Int32.toNatClampNeg (((36 * v1) + (3 * v3)) + v4))) = (iR ρ (41, 14, 0) (Int32.toNatClampNeg (((36 * v2) + (3 * v3)) + v4))) then 1 else 0) → (nb z4 ∧ (∀ ad, K ad (some (.int z4)) ρ)))) ∧ (¬ (iR ρ (41, 14, 0) (Int32.toNatClampNeg (((36 * v1) + (3 * v3)) + v4))) = (-1) → (((iR ρ (41, 14, 0) (Int32.toNatClampNeg (((36 * v2) + (3 * v3)) + v4))) = (-1) → (∀ z6 : Int32, z6 = (if (iR ρ (41, 14, 0) (Int32.toNatClampNeg (((36 * v1) + (3 * v3)) + v4))) = (iR ρ (41, 14, 0) (Int32.toNatClampNeg (((36 * v2) + (3 * v3)) + v4))) then 1 else 0) → (nb z6 ∧ (∀ ad, K ad (some (.int z6)) ρ)))) ∧ (¬ (iR ρ (41, 14, 0) (Int32.toNatClampNeg (((36 * v2) + (3 * v3)) + v4))) = (-1) → (Y G [] ad0 M Q 84 (fun ad => [(0, .ref (ad (40, 0, 0))), (1, .int v1), (2, .int v2), (3, .int v3), (4, .int v4), (5, .int (iR ρ (41, 14, 0) (Int32.toNatClampNeg (((36 * v1) + (3 * v3)) + v4)))), (6, .int (iR ρ (41, 14, 0) (Int32.toNatClampNeg (((36 * v2) + (3 * v3)) + v4)))), (7, .int 0), (8, .int 0), (9, .int 0)]) (fun ad => []) ρ)))))))))) : Y G [] ad0 M Q 3 (fun ad => [(0, .ref (ad (40, 0, 0))), (1, .int v1), (2, .int v2), (3, .int v3), (4, .int v4)]) (fun ad => []) ρ := by
  intro ad h hSt V
  show X G M Q 3 [(0, .ref (ad (40, 0, 0))), (1, .int v1), (2, .int v2), (3, .int v3), (4, .int v4)] [] h
  refine x_iload hM d_Mo_isOneWay_3 4 rfl ?_
  refine x_aload_n hM d_Mo_isOneWay_5 rfl 0 rfl ?_
  refine y_getr hG hM V ck_Mo 4 (Nat.le_of_ble_eq_true rfl) rfl rfl w_901 rfl d_Mo_isOneWay_6 (40, 0, 0) (41, 4, 0) rfl rfl rfl ?_
  refine x_iload_n hM d_Mo_isOneWay_9 rfl 3 rfl ?_
  obtain ⟨c1, F⟩ := F
  refine y_iaload hG hM V d_Mo_isOneWay_10 (41, 4, 0) rfl rfl (by rw [vlen V (r := (41, 4, 0)) rfl rfl]; exact c1) ?_
  refine x_icmp_ge (tgt := 205) hM d_Mo_isOneWay_11 (by decide) (fun q10 => ?_) (fun q10 => ?_)
  · replace F := F.1 q10
    refine x_iconst (v := 1) hM d_Mo_isOneWay_205 (by decide) ?_
    exact x_zreturn hM d_Mo_isOneWay_206 rfl (Or.inr rfl) (y_end V hSt (F _))
  · replace F := F.2 q10
    refine x_aload_n hM d_Mo_isOneWay_14 rfl 0 rfl ?_
    refine y_getr hG hM V ck_Mo 14 (Nat.le_of_ble_eq_true rfl) rfl rfl w_911 rfl d_Mo_isOneWay_15 (40, 0, 0) (41, 14, 0) rfl rfl rfl ?_
    refine x_bipush (v := 36) hM d_Mo_isOneWay_18 (by decide) ?_
    refine x_iload_n hM d_Mo_isOneWay_20 rfl 1 rfl ?_
    refine x_imul hM d_Mo_isOneWay_21 ?_
    refine x_iconst (v := 3) hM d_Mo_isOneWay_22 (by decide) ?_
    refine x_iload_n hM d_Mo_isOneWay_23 rfl 3 rfl ?_
    refine x_imul hM d_Mo_isOneWay_24 ?_
    refine x_iadd hM d_Mo_isOneWay_25 ?_
    refine x_iload hM d_Mo_isOneWay_26 4 rfl ?_
    refine x_iadd hM d_Mo_isOneWay_28 ?_
    obtain ⟨c2, F⟩ := F
    refine y_iaload hG hM V d_Mo_isOneWay_29 (41, 14, 0) rfl rfl (by rw [vlen V (r := (41, 14, 0)) rfl rfl]; exact c2) ?_
    refine x_istore (lv2 := [(5, .int (iR ρ (41, 14, 0) (Int32.toNatClampNeg (((36 * v1) + (3 * v3)) + v4)))), (0, .ref (ad (40, 0, 0))), (1, .int v1), (2, .int v2), (3, .int v3), (4, .int v4)]) hM d_Mo_isOneWay_30 (Nat.le_of_ble_eq_true rfl) rfl ?_
    refine x_aload_n hM d_Mo_isOneWay_32 rfl 1 rfl ?_
    refine y_getr hG hM V ck_Mo 14 (Nat.le_of_ble_eq_true rfl) rfl rfl w_911 rfl d_Mo_isOneWay_33 (40, 0, 0) (41, 14, 0) rfl rfl rfl ?_
    refine x_bipush (v := 36) hM d_Mo_isOneWay_36 (by decide) ?_
    refine x_iload_n hM d_Mo_isOneWay_38 rfl 3 rfl ?_
    refine x_imul hM d_Mo_isOneWay_39 ?_
    refine x_iconst (v := 3) hM d_Mo_isOneWay_40 (by decide) ?_
    refine x_iload_n hM d_Mo_isOneWay_41 rfl 4 rfl ?_
    refine x_imul hM d_Mo_isOneWay_42 ?_
    refine x_iadd hM d_Mo_isOneWay_43 ?_
    refine x_iload hM d_Mo_isOneWay_44 5 rfl ?_
    refine x_iadd hM d_Mo_isOneWay_46 ?_
    obtain ⟨c3, F⟩ := F
    refine y_iaload hG hM V d_Mo_isOneWay_47 (41, 14, 0) rfl rfl (by rw [vlen V (r := (41, 14, 0)) rfl rfl]; exact c3) ?_
    refine x_istore (lv2 := [(6, .int (iR ρ (41, 14, 0) (Int32.toNatClampNeg (((36 * v2) + (3 * v3)) + v4)))), (5, .int (iR ρ (41, 14, 0) (Int32.toNatClampNeg (((36 * v1) + (3 * v3)) + v4)))), (0, .ref (ad (40, 0, 0))), (1, .int v1), (2, .int v2), (3, .int v3), (4, .int v4)]) hM d_Mo_isOneWay_48 (Nat.le_of_ble_eq_true rfl) rfl ?_
    refine x_iload hM d_Mo_isOneWay_50 1 rfl ?_
    refine x_iconst (v := (-1)) hM d_Mo_isOneWay_52 (by decide) ?_
    refine x_icmp_eq (tgt := 62) hM d_Mo_isOneWay_53 (by decide) (fun q9 => ?_) (fun q9 => ?_)
    · replace F := F.1 q9
      refine x_iload hM d_Mo_isOneWay_62 1 rfl ?_
      refine x_iload hM d_Mo_isOneWay_64 0 rfl ?_
      have JJ : ∀ (z4 : Int32) (ez4 : z4 = (if (iR ρ (41, 14, 0) (Int32.toNatClampNeg (((36 * v1) + (3 * v3)) + v4))) = (iR ρ (41, 14, 0) (Int32.toNatClampNeg (((36 * v2) + (3 * v3)) + v4))) then 1 else 0)), X G M Q 74 [] [.int z4] h := by
        intro z4 ez4
        replace F := F _ ez4
        exact x_zreturn hM d_Mo_isOneWay_74 rfl F.1 (y_end V hSt (F.2 _))
      refine x_icmp_ne (tgt := 73) hM d_Mo_isOneWay_66 (by decide) (fun q5 => ?_) (fun q5 => ?_)
      · refine x_iconst (v := 0) hM d_Mo_isOneWay_73 (by decide) ?_
        refine x_sub [] rfl ?_
        exact JJ _ (Eq.symm (if_neg q5))
      · refine x_iconst (v := 1) hM d_Mo_isOneWay_69 (by decide) ?_
        refine x_goto (tgt := 74) hM d_Mo_isOneWay_70 (by decide) ?_
        refine x_sub [] rfl ?_
        exact JJ _ (Eq.symm (if_pos q5))
    · replace F := F.2 q9
      refine x_iload hM d_Mo_isOneWay_56 0 rfl ?_
      refine x_iconst (v := (-1)) hM d_Mo_isOneWay_58 (by decide) ?_
      refine x_icmp_ne (tgt := 75) hM d_Mo_isOneWay_59 (by decide) (fun q8 => ?_) (fun q8 => ?_)
      · replace F := F.2 q8
        refine x_iconst (v := 0) hM d_Mo_isOneWay_75 (by decide) ?_
        refine x_istore (lv2 := [(7, .int 0), (6, .int (iR ρ (41, 14, 0) (Int32.toNatClampNeg (((36 * v2) + (3 * v3)) + v4)))), (5, .int (iR ρ (41, 14, 0) (Int32.toNatClampNeg (((36 * v1) + (3 * v3)) + v4)))), (0, .ref (ad (40, 0, 0))), (1, .int v1), (2, .int v2), (3, .int v3), (4, .int v4)]) hM d_Mo_isOneWay_76 (Nat.le_of_ble_eq_true rfl) rfl ?_
        refine x_iconst (v := 0) hM d_Mo_isOneWay_78 (by decide) ?_
        refine x_istore (lv2 := [(8, .int 0), (7, .int 0), (6, .int (iR ρ (41, 14, 0) (Int32.toNatClampNeg (((36 * v2) + (3 * v3)) + v4)))), (5, .int (iR ρ (41, 14, 0) (Int32.toNatClampNeg (((36 * v1) + (3 * v3)) + v4)))), (0, .ref (ad (40, 0, 0))), (1, .int v1), (2, .int v2), (3, .int v3), (4, .int v4)]) hM d_Mo_isOneWay_79 (Nat.le_of_ble_eq_true rfl) rfl ?_
        refine x_iconst (v := 0) hM d_Mo_isOneWay_81 (by decide) ?_
        refine x_istore (lv2 := [(9, .int 0), (8, .int 0), (7, .int 0), (6, .int (iR ρ (41, 14, 0) (Int32.toNatClampNeg (((36 * v2) + (3 * v3)) + v4)))), (5, .int (iR ρ (41, 14, 0) (Int32.toNatClampNeg (((36 * v1) + (3 * v3)) + v4)))), (0, .ref (ad (40, 0, 0))), (1, .int v1), (2, .int v2), (3, .int v3), (4, .int v4)]) hM d_Mo_isOneWay_82 (Nat.le_of_ble_eq_true rfl) rfl ?_
        refine x_sub [5, 6, 7, 8, 9, 4, 3, 2, 1, 0] rfl ?_
        exact F _ _ hSt V
      · replace F := F.1 q8
        refine x_iload hM d_Mo_isOneWay_62 1 rfl ?_
        refine x_iload hM d_Mo_isOneWay_64 0 rfl ?_
        have JJ : ∀ (z6 : Int32) (ez6 : z6 = (if (iR ρ (41, 14, 0) (Int32.toNatClampNeg (((36 * v1) + (3 * v3)) + v4))) = (iR ρ (41, 14, 0) (Int32.toNatClampNeg (((36 * v2) + (3 * v3)) + v4))) then 1 else 0)), X G M Q 74 [] [.int z6] h := by
          intro z6 ez6
          replace F := F _ ez6
          exact x_zreturn hM d_Mo_isOneWay_74 rfl F.1 (y_end V hSt (F.2 _))
        refine x_icmp_ne (tgt := 73) hM d_Mo_isOneWay_66 (by decide) (fun q7 => ?_) (fun q7 => ?_)
        · refine x_iconst (v := 0) hM d_Mo_isOneWay_73 (by decide) ?_
          refine x_sub [] rfl ?_
          exact JJ _ (Eq.symm (if_neg q7))
        · refine x_iconst (v := 1) hM d_Mo_isOneWay_69 (by decide) ?_
          refine x_goto (tgt := 74) hM d_Mo_isOneWay_70 (by decide) ?_
          refine x_sub [] rfl ?_
          exact JJ _ (Eq.symm (if_pos q7))
set_option maxRecDepth 100000 in
set_option maxHeartbeats 4000000 in
theorem T_Mo_isOneWay_84 {G : Gc} {M : Mc} {Q : State → Prop} {ad0 : Ro → Nat} {K : (Ro → Nat) → Option Value → Rs → Prop} (hG : gok G) (hM : mok G M r_Mo_isOneWay Q (KV G [] ad0 K)) (v1 : Int32) (v2 : Int32) (v3 : Int32) (v4 : Int32) (v5 : Int32) (v6 : Int32) (v7 : Int32) (v8 : Int32) (v9 : Int32) (ρ : Rs) (F : vp_in v3 12 ∧ (((iR ρ (41, 4, 0) (Int32.toNatClampNeg v3)) ≤ v9 → ((v7 = 0 → (∀ ad, K ad (some (.int 0)) ρ)) ∧ (¬ v7 = 0 → ((v8 = 0 → (∀ ad, K ad (some (.int 0)) ρ)) ∧ (¬ v8 = 0 → (Y G [] ad0 M Q 3 (fun ad => [(0, .ref (ad (40, 0, 0))), (1, .int v1), (2, .int v2), (3, .int v3), (4, .int (v4 + 1))]) (fun ad => []) ρ)))))) ∧ (¬ (iR ρ (41, 4, 0) (Int32.toNatClampNeg v3)) ≤ v9 → ((v7 = 0 → (vp_in v5 4096 ∧ vp_in (((36 * v2) + (3 * v3)) + v9) 147456 ∧ vp_in (iR ρ (41, 14, 0) (Int32.toNatClampNeg (((36 * v2) + (3 * v3)) + v9))) 4096)) ∧ (∀ z7 : Int32, z7 = (if v7 = 0 then (if (iR ρ (41, 27, 0) (Int32.toNatClampNeg v5)) = (iR ρ (41, 27, 0) (Int32.toNatClampNeg (iR ρ (41, 14, 0) (Int32.toNatClampNeg (((36 * v2) + (3 * v3)) + v9))))) then 1 else 0) else 1) → ((v8 = 0 → (vp_in v6 4096 ∧ vp_in (((36 * v1) + (3 * v3)) + v9) 147456 ∧ vp_in (iR ρ (41, 14, 0) (Int32.toNatClampNeg (((36 * v1) + (3 * v3)) + v9))) 4096)) ∧ (∀ z11 : Int32, z11 = (if v8 = 0 then (if (iR ρ (41, 27, 0) (Int32.toNatClampNeg v6)) = (iR ρ (41, 27, 0) (Int32.toNatClampNeg (iR ρ (41, 14, 0) (Int32.toNatClampNeg (((36 * v1) + (3 * v3)) + v9))))) then 1 else 0) else 1) → (Y G [] ad0 M Q 84 (fun ad => [(0, .ref (ad (40, 0, 0))), (1, .int v1), (2, .int v2), (3, .int v3), (4, .int v4), (5, .int v5), (6, .int v6), (7, .int z7), (8, .int z11), (9, .int (v9 + 1))]) (fun ad => []) ρ)))))))) : Y G [] ad0 M Q 84 (fun ad => [(0, .ref (ad (40, 0, 0))), (1, .int v1), (2, .int v2), (3, .int v3), (4, .int v4), (5, .int v5), (6, .int v6), (7, .int v7), (8, .int v8), (9, .int v9)]) (fun ad => []) ρ := by
  intro ad h hSt V
  show X G M Q 84 [(0, .ref (ad (40, 0, 0))), (1, .int v1), (2, .int v2), (3, .int v3), (4, .int v4), (5, .int v5), (6, .int v6), (7, .int v7), (8, .int v8), (9, .int v9)] [] h
  refine x_iload hM d_Mo_isOneWay_84 9 rfl ?_
  refine x_aload_n hM d_Mo_isOneWay_86 rfl 0 rfl ?_
  refine y_getr hG hM V ck_Mo 4 (Nat.le_of_ble_eq_true rfl) rfl rfl w_901 rfl d_Mo_isOneWay_87 (40, 0, 0) (41, 4, 0) rfl rfl rfl ?_
  refine x_iload_n hM d_Mo_isOneWay_90 rfl 3 rfl ?_
  obtain ⟨c1, F⟩ := F
  refine y_iaload hG hM V d_Mo_isOneWay_91 (41, 4, 0) rfl rfl (by rw [vlen V (r := (41, 4, 0)) rfl rfl]; exact c1) ?_
  refine x_icmp_ge (tgt := 187) hM d_Mo_isOneWay_92 (by decide) (fun q16 => ?_) (fun q16 => ?_)
  · replace F := F.1 q16
    refine x_iload hM d_Mo_isOneWay_187 7 rfl ?_
    refine x_if_eq (tgt := 197) hM d_Mo_isOneWay_189 (by decide) (fun q3 => ?_) (fun q3 => ?_)
    · replace F := F.1 q3
      refine x_iconst (v := 0) hM d_Mo_isOneWay_197 (by decide) ?_
      exact x_zreturn hM d_Mo_isOneWay_198 rfl (Or.inl rfl) (y_end V hSt (F _))
    · replace F := F.2 q3
      refine x_iload hM d_Mo_isOneWay_192 8 rfl ?_
      refine x_if_ne (tgt := 199) hM d_Mo_isOneWay_194 (by decide) (fun q2 => ?_) (fun q2 => ?_)
      · replace F := F.2 q2
        refine x_iinc (v := (v4 + 1)) (lv2 := [(4, .int (v4 + 1)), (0, .ref (ad (40, 0, 0))), (1, .int v1), (2, .int v2), (3, .int v3), (5, .int v5), (6, .int v6), (7, .int v7), (8, .int v8), (9, .int v9)]) hM d_Mo_isOneWay_199 (j := 4) rfl rfl (Nat.le_of_ble_eq_true rfl) rfl ?_
        refine x_goto (tgt := 3) hM d_Mo_isOneWay_202 (by decide) ?_
        refine x_sub [1, 2, 3, 4, 0] rfl ?_
        exact F _ _ hSt V
      · replace F := F.1 q2
        refine x_iconst (v := 0) hM d_Mo_isOneWay_197 (by decide) ?_
        exact x_zreturn hM d_Mo_isOneWay_198 rfl (Or.inl rfl) (y_end V hSt (F _))
  · replace F := F.2 q16
    refine x_iload hM d_Mo_isOneWay_95 7 rfl ?_
    obtain ⟨S, F⟩ := F
    have JJ : ∀ (z7 : Int32) (ez7 : z7 = (if v7 = 0 then (if (iR ρ (41, 27, 0) (Int32.toNatClampNeg v5)) = (iR ρ (41, 27, 0) (Int32.toNatClampNeg (iR ρ (41, 14, 0) (Int32.toNatClampNeg (((36 * v2) + (3 * v3)) + v9))))) then 1 else 0) else 1)), X G M Q 136 [(0, .ref (ad (40, 0, 0))), (1, .int v1), (2, .int v2), (3, .int v3), (4, .int v4), (5, .int v5), (6, .int v6), (8, .int v8), (9, .int v9)] [.int z7] h := by
      intro z7 ez7
      replace F := F _ ez7
      refine x_istore (lv2 := [(7, .int z7), (0, .ref (ad (40, 0, 0))), (1, .int v1), (2, .int v2), (3, .int v3), (4, .int v4), (5, .int v5), (6, .int v6), (8, .int v8), (9, .int v9)]) hM d_Mo_isOneWay_136 (Nat.le_of_ble_eq_true rfl) rfl ?_
      refine x_iload hM d_Mo_isOneWay_138 8 rfl ?_
      obtain ⟨S, F⟩ := F
      have JJ : ∀ (z11 : Int32) (ez11 : z11 = (if v8 = 0 then (if (iR ρ (41, 27, 0) (Int32.toNatClampNeg v6)) = (iR ρ (41, 27, 0) (Int32.toNatClampNeg (iR ρ (41, 14, 0) (Int32.toNatClampNeg (((36 * v1) + (3 * v3)) + v9))))) then 1 else 0) else 1)), X G M Q 179 [(0, .ref (ad (40, 0, 0))), (1, .int v1), (2, .int v2), (3, .int v3), (4, .int v4), (5, .int v5), (6, .int v6), (7, .int z7), (9, .int v9)] [.int z11] h := by
        intro z11 ez11
        replace F := F _ ez11
        refine x_istore (lv2 := [(8, .int z11), (0, .ref (ad (40, 0, 0))), (1, .int v1), (2, .int v2), (3, .int v3), (4, .int v4), (5, .int v5), (6, .int v6), (7, .int z7), (9, .int v9)]) hM d_Mo_isOneWay_179 (Nat.le_of_ble_eq_true rfl) rfl ?_
        refine x_iinc (v := (v9 + 1)) (lv2 := [(9, .int (v9 + 1)), (8, .int z11), (0, .ref (ad (40, 0, 0))), (1, .int v1), (2, .int v2), (3, .int v3), (4, .int v4), (5, .int v5), (6, .int v6), (7, .int z7)]) hM d_Mo_isOneWay_181 (j := 9) rfl rfl (Nat.le_of_ble_eq_true rfl) rfl ?_
        refine x_goto (tgt := 84) hM d_Mo_isOneWay_184 (by decide) ?_
        refine x_sub [2, 3, 4, 5, 6, 7, 8, 9, 1, 0] rfl ?_
        exact F _ _ hSt V
      refine x_if_ne (tgt := 174) hM d_Mo_isOneWay_140 (by decide) (fun q12 => ?_) (fun q12 => ?_)
      · refine x_iconst (v := 1) hM d_Mo_isOneWay_174 (by decide) ?_
        refine x_goto (tgt := 179) hM d_Mo_isOneWay_175 (by decide) ?_
        refine x_sub [1, 2, 3, 4, 5, 6, 7, 0, 9] rfl ?_
        exact JJ _ (Eq.symm (if_neg q12))
      · replace S := S q12
        refine x_aload_n hM d_Mo_isOneWay_143 rfl 1 rfl ?_
        refine y_getr hG hM V ck_Mo 27 (Nat.le_of_ble_eq_true rfl) rfl rfl w_924 rfl d_Mo_isOneWay_144 (40, 0, 0) (41, 27, 0) rfl rfl rfl ?_
        refine x_iload hM d_Mo_isOneWay_147 7 rfl ?_
        obtain ⟨c8, S⟩ := S
        refine y_iaload hG hM V d_Mo_isOneWay_149 (41, 27, 0) rfl rfl (by rw [vlen V (r := (41, 27, 0)) rfl rfl]; exact c8) ?_
        refine x_aload_n hM d_Mo_isOneWay_150 rfl 1 rfl ?_
        refine y_getr hG hM V ck_Mo 27 (Nat.le_of_ble_eq_true rfl) rfl rfl w_924 rfl d_Mo_isOneWay_151 (40, 0, 0) (41, 27, 0) rfl rfl rfl ?_
        refine x_aload_n hM d_Mo_isOneWay_154 rfl 1 rfl ?_
        refine y_getr hG hM V ck_Mo 14 (Nat.le_of_ble_eq_true rfl) rfl rfl w_911 rfl d_Mo_isOneWay_155 (40, 0, 0) (41, 14, 0) rfl rfl rfl ?_
        refine x_bipush (v := 36) hM d_Mo_isOneWay_158 (by decide) ?_
        refine x_iload_n hM d_Mo_isOneWay_160 rfl 2 rfl ?_
        refine x_imul hM d_Mo_isOneWay_161 ?_
        refine x_iconst (v := 3) hM d_Mo_isOneWay_162 (by decide) ?_
        refine x_iload_n hM d_Mo_isOneWay_163 rfl 4 rfl ?_
        refine x_imul hM d_Mo_isOneWay_164 ?_
        refine x_iadd hM d_Mo_isOneWay_165 ?_
        refine x_iload hM d_Mo_isOneWay_166 9 rfl ?_
        refine x_iadd hM d_Mo_isOneWay_168 ?_
        obtain ⟨c9, S⟩ := S
        refine y_iaload hG hM V d_Mo_isOneWay_169 (41, 14, 0) rfl rfl (by rw [vlen V (r := (41, 14, 0)) rfl rfl]; exact c9) ?_
        have c10 := S
        refine y_iaload hG hM V d_Mo_isOneWay_170 (41, 27, 0) rfl rfl (by rw [vlen V (r := (41, 27, 0)) rfl rfl]; exact c10) ?_
        refine x_icmp_ne (tgt := 178) hM d_Mo_isOneWay_171 (by decide) (fun q13 => ?_) (fun q13 => ?_)
        · refine x_iconst (v := 0) hM d_Mo_isOneWay_178 (by decide) ?_
          refine x_sub [1, 2, 3, 4, 5, 6, 7, 0, 9] rfl ?_
          exact JJ _ (Eq.symm (Eq.trans (if_pos q12) (if_neg q13)))
        · refine x_iconst (v := 1) hM d_Mo_isOneWay_174 (by decide) ?_
          refine x_goto (tgt := 179) hM d_Mo_isOneWay_175 (by decide) ?_
          refine x_sub [1, 2, 3, 4, 5, 6, 7, 0, 9] rfl ?_
          exact JJ _ (Eq.symm (Eq.trans (if_pos q12) (if_pos q13)))
    refine x_if_ne (tgt := 131) hM d_Mo_isOneWay_97 (by decide) (fun q14 => ?_) (fun q14 => ?_)
    · refine x_iconst (v := 1) hM d_Mo_isOneWay_131 (by decide) ?_
      refine x_goto (tgt := 136) hM d_Mo_isOneWay_132 (by decide) ?_
      refine x_sub [0, 1, 2, 3, 4, 5, 6, 8, 9] rfl ?_
      exact JJ _ (Eq.symm (if_neg q14))
    · replace S := S q14
      refine x_aload_n hM d_Mo_isOneWay_100 rfl 0 rfl ?_
      refine y_getr hG hM V ck_Mo 27 (Nat.le_of_ble_eq_true rfl) rfl rfl w_924 rfl d_Mo_isOneWay_101 (40, 0, 0) (41, 27, 0) rfl rfl rfl ?_
      refine x_iload hM d_Mo_isOneWay_104 5 rfl ?_
      obtain ⟨c4, S⟩ := S
      refine y_iaload hG hM V d_Mo_isOneWay_106 (41, 27, 0) rfl rfl (by rw [vlen V (r := (41, 27, 0)) rfl rfl]; exact c4) ?_
      refine x_aload_n hM d_Mo_isOneWay_107 rfl 0 rfl ?_
      refine y_getr hG hM V ck_Mo 27 (Nat.le_of_ble_eq_true rfl) rfl rfl w_924 rfl d_Mo_isOneWay_108 (40, 0, 0) (41, 27, 0) rfl rfl rfl ?_
      refine x_aload_n hM d_Mo_isOneWay_111 rfl 0 rfl ?_
      refine y_getr hG hM V ck_Mo 14 (Nat.le_of_ble_eq_true rfl) rfl rfl w_911 rfl d_Mo_isOneWay_112 (40, 0, 0) (41, 14, 0) rfl rfl rfl ?_
      refine x_bipush (v := 36) hM d_Mo_isOneWay_115 (by decide) ?_
      refine x_iload_n hM d_Mo_isOneWay_117 rfl 2 rfl ?_
      refine x_imul hM d_Mo_isOneWay_118 ?_
      refine x_iconst (v := 3) hM d_Mo_isOneWay_119 (by decide) ?_
      refine x_iload_n hM d_Mo_isOneWay_120 rfl 3 rfl ?_
      refine x_imul hM d_Mo_isOneWay_121 ?_
      refine x_iadd hM d_Mo_isOneWay_122 ?_
      refine x_iload hM d_Mo_isOneWay_123 9 rfl ?_
      refine x_iadd hM d_Mo_isOneWay_125 ?_
      obtain ⟨c5, S⟩ := S
      refine y_iaload hG hM V d_Mo_isOneWay_126 (41, 14, 0) rfl rfl (by rw [vlen V (r := (41, 14, 0)) rfl rfl]; exact c5) ?_
      have c6 := S
      refine y_iaload hG hM V d_Mo_isOneWay_127 (41, 27, 0) rfl rfl (by rw [vlen V (r := (41, 27, 0)) rfl rfl]; exact c6) ?_
      refine x_icmp_ne (tgt := 135) hM d_Mo_isOneWay_128 (by decide) (fun q15 => ?_) (fun q15 => ?_)
      · refine x_iconst (v := 0) hM d_Mo_isOneWay_135 (by decide) ?_
        refine x_sub [0, 1, 2, 3, 4, 5, 6, 8, 9] rfl ?_
        exact JJ _ (Eq.symm (Eq.trans (if_pos q14) (if_neg q15)))
      · refine x_iconst (v := 1) hM d_Mo_isOneWay_131 (by decide) ?_
        refine x_goto (tgt := 136) hM d_Mo_isOneWay_132 (by decide) ?_
        refine x_sub [0, 1, 2, 3, 4, 5, 6, 8, 9] rfl ?_
        exact JJ _ (Eq.symm (Eq.trans (if_pos q14) (if_pos q15)))
set_option maxRecDepth 100000 in
set_option maxHeartbeats 4000000 in
theorem T_Mo_of_0 {G : Gc} {M : Mc} {Q : State → Prop} {ad0 : Ro → Nat} {K : (Ro → Nat) → Option Value → Rs → Prop} (hG : gok G) (hM : mok G M r_Mo_of Q (KV G [] ad0 K)) (v1 : Int32) (v2 : Int32) (ρ : Rs) (F : semV G r_Mo_isState [] (fun ad => [.ref (ad (40, 0, 0)), .int v1]) ρ (fun ad u2 ρ1 => ∃ x4 : Int32, u2 = some (.int x4) ∧ ((x4 = 0 → (∀ ad, K ad (some (.int (-2))) ρ1)) ∧ (¬ x4 = 0 → (semV G r_Mo_isIn [] (fun ad => [.int v2, .int 0, .int 4]) ρ1 (fun ad u6 ρ5 => ∃ x8 : Int32, u6 = some (.int x8) ∧ ((x8 = 0 → (∀ ad, K ad (some (.int (-2))) ρ5)) ∧ (¬ x8 = 0 → (semV G r_Mo_lay [] (fun ad => [.ref (ad (40, 0, 0))]) ρ5 (fun ad u10 ρ9 => u10 = none ∧ ((v2 = 0 → (vp_in v1 4096 ∧ (∀ ad, K ad (some (.int (iR ρ9 (41, 19, 0) (Int32.toNatClampNeg v1)))) ρ9))) ∧ (v2 = 1 → (vp_in v1 4096 ∧ (∀ ad, K ad (some (.int (iR ρ9 (41, 20, 0) (Int32.toNatClampNeg v1)))) ρ9))) ∧ (v2 = 2 → (vp_in v1 4096 ∧ (∀ ad, K ad (some (.int (iR ρ9 (41, 21, 0) (Int32.toNatClampNeg v1)))) ρ9))) ∧ (v2 = 3 → (vp_in v1 4096 ∧ (∀ ad, K ad (some (.int (iR ρ9 (41, 22, 0) (Int32.toNatClampNeg v1)))) ρ9))) ∧ (¬ v2 = 0 → ¬ v2 = 1 → ¬ v2 = 2 → ¬ v2 = 3 → (semV G r_Mo_partAll [] (fun ad => [.ref (ad (40, 0, 0))]) ρ9 (fun ad u17 ρ16 => u17 = none ∧ (Y G [] ad0 M Q 90 (fun ad => [(0, .ref (ad (40, 0, 0))), (1, .int v1), (3, .int 0)]) (fun ad => []) ρ16))))))))))))))) : Y G [] ad0 M Q 0 (fun ad => [(0, .ref (ad (40, 0, 0))), (1, .int v1), (2, .int v2)]) (fun ad => []) ρ := by
  intro ad h hSt V
  show X G M Q 0 [(0, .ref (ad (40, 0, 0))), (1, .int v1), (2, .int v2)] [] h
  refine x_aload_n hM d_Mo_of_0 rfl 0 rfl ?_
  refine x_iload_n hM d_Mo_of_1 rfl 1 rfl ?_
  refine x_callV hG hM (r' := r_Mo_isState) (ci := 11) [.int v1] rfl rfl (Nat.le_of_ble_eq_true rfl) yk_Mo_isState ⟨Nat.le_of_ble_eq_true rfl, Nat.le_of_ble_eq_true rfl⟩ w_1028 w_1030 ws_Mo_isState rfl rfl (Nat.le_of_ble_eq_true rfl) d_Mo_of_2 (by rw [vT V rfl]; rfl) (sem_mono (F _ _ V) ?_)
  intro u2 h F
  obtain ⟨ad24, ρ1, V, hs3, F⟩ := F
  obtain ⟨x4, rfl, F⟩ := F
  have hs3 := (St_eq hs3).symm
  subst hs3
  refine x_if_eq (tgt := 17) hM d_Mo_of_5 (by decide) (fun q23 => ?_) (fun q23 => ?_)
  · replace F := F.1 q23
    refine x_bipush (v := (-2)) hM d_Mo_of_17 (by decide) ?_
    exact x_ireturn hM d_Mo_of_19 rfl (y_end V hSt (F _))
  · replace F := F.2 q23
    refine x_iload_n hM d_Mo_of_8 rfl 2 rfl ?_
    refine x_iconst (v := 0) hM d_Mo_of_9 (by decide) ?_
    refine x_iconst (v := 4) hM d_Mo_of_10 (by decide) ?_
    refine x_callS hG hM (r' := r_Mo_isIn) [.int v2, .int 0, .int 4] rfl yk_Mo_isIn ⟨Nat.le_of_ble_eq_true rfl, Nat.le_of_ble_eq_true rfl⟩ w_1017 w_1018 rfl rfl (Nat.le_of_ble_eq_true rfl) d_Mo_of_11 (sem_mono (F _ _ V) ?_)
    intro u6 h F
    obtain ⟨ad22, ρ5, V, hs7, F⟩ := F
    obtain ⟨x8, rfl, F⟩ := F
    have hs7 := (St_eq hs7).symm
    subst hs7
    refine x_if_ne (tgt := 20) hM d_Mo_of_14 (by decide) (fun q21 => ?_) (fun q21 => ?_)
    · replace F := F.2 q21
      refine x_aload_n hM d_Mo_of_20 rfl 0 rfl ?_
      refine x_callV hG hM (r' := r_Mo_lay) (ci := 11) [] rfl rfl (Nat.le_of_ble_eq_true rfl) yk_Mo_lay ⟨Nat.le_of_ble_eq_true rfl, Nat.le_of_ble_eq_true rfl⟩ w_1112 w_1114 ws_Mo_lay rfl rfl (Nat.le_of_ble_eq_true rfl) d_Mo_of_21 (by rw [vT V rfl]; rfl) (sem_mono (F _ _ V) ?_)
      intro u10 h F
      obtain ⟨ad20, ρ9, V, hs11, F⟩ := F
      obtain ⟨rfl, F⟩ := F
      have hs11 := (St_eq hs11).symm
      subst hs11
      refine x_iload_n hM d_Mo_of_24 rfl 2 rfl ?_
      by_cases q25_0 : v2 = 0
      · replace F := F.1 q25_0
        refine x_tblIn (tgt := 56) hM d_Mo_of_25 (by rw [q25_0]; decide) (by rw [q25_0]; decide) (by rw [q25_0]; rfl) (by decide) ?_
        refine x_aload_n hM d_Mo_of_56 rfl 0 rfl ?_
        refine y_getr hG hM V ck_Mo 19 (Nat.le_of_ble_eq_true rfl) rfl rfl w_916 rfl d_Mo_of_57 (40, 0, 0) (41, 19, 0) rfl rfl rfl ?_
        refine x_iload_n hM d_Mo_of_60 rfl 1 rfl ?_
        obtain ⟨c12, F⟩ := F
        refine y_iaload hG hM V d_Mo_of_61 (41, 19, 0) rfl rfl (by rw [vlen V (r := (41, 19, 0)) rfl rfl]; exact c12) ?_
        exact x_ireturn hM d_Mo_of_62 rfl (y_end V hSt (F _))
      by_cases q25_1 : v2 = 1
      · replace F := F.2.1 q25_1
        refine x_tblIn (tgt := 63) hM d_Mo_of_25 (by rw [q25_1]; decide) (by rw [q25_1]; decide) (by rw [q25_1]; rfl) (by decide) ?_
        refine x_aload_n hM d_Mo_of_63 rfl 0 rfl ?_
        refine y_getr hG hM V ck_Mo 20 (Nat.le_of_ble_eq_true rfl) rfl rfl w_917 rfl d_Mo_of_64 (40, 0, 0) (41, 20, 0) rfl rfl rfl ?_
        refine x_iload_n hM d_Mo_of_67 rfl 1 rfl ?_
        obtain ⟨c13, F⟩ := F
        refine y_iaload hG hM V d_Mo_of_68 (41, 20, 0) rfl rfl (by rw [vlen V (r := (41, 20, 0)) rfl rfl]; exact c13) ?_
        exact x_ireturn hM d_Mo_of_69 rfl (y_end V hSt (F _))
      by_cases q25_2 : v2 = 2
      · replace F := F.2.2.1 q25_2
        refine x_tblIn (tgt := 70) hM d_Mo_of_25 (by rw [q25_2]; decide) (by rw [q25_2]; decide) (by rw [q25_2]; rfl) (by decide) ?_
        refine x_aload_n hM d_Mo_of_70 rfl 0 rfl ?_
        refine y_getr hG hM V ck_Mo 21 (Nat.le_of_ble_eq_true rfl) rfl rfl w_918 rfl d_Mo_of_71 (40, 0, 0) (41, 21, 0) rfl rfl rfl ?_
        refine x_iload_n hM d_Mo_of_74 rfl 1 rfl ?_
        obtain ⟨c14, F⟩ := F
        refine y_iaload hG hM V d_Mo_of_75 (41, 21, 0) rfl rfl (by rw [vlen V (r := (41, 21, 0)) rfl rfl]; exact c14) ?_
        exact x_ireturn hM d_Mo_of_76 rfl (y_end V hSt (F _))
      by_cases q25_3 : v2 = 3
      · replace F := F.2.2.2.1 q25_3
        refine x_tblIn (tgt := 77) hM d_Mo_of_25 (by rw [q25_3]; decide) (by rw [q25_3]; decide) (by rw [q25_3]; rfl) (by decide) ?_
        refine x_aload_n hM d_Mo_of_77 rfl 0 rfl ?_
        refine y_getr hG hM V ck_Mo 22 (Nat.le_of_ble_eq_true rfl) rfl rfl w_919 rfl d_Mo_of_78 (40, 0, 0) (41, 22, 0) rfl rfl rfl ?_
        refine x_iload_n hM d_Mo_of_81 rfl 1 rfl ?_
        obtain ⟨c15, F⟩ := F
        refine y_iaload hG hM V d_Mo_of_82 (41, 22, 0) rfl rfl (by rw [vlen V (r := (41, 22, 0)) rfl rfl]; exact c15) ?_
        exact x_ireturn hM d_Mo_of_83 rfl (y_end V hSt (F _))
      replace F := F.2.2.2.2 q25_0 q25_1 q25_2 q25_3
      refine x_tblOut (tgt := 84) hM d_Mo_of_25 (sw_out3 q25_0 q25_1 q25_2 q25_3) (by decide) ?_
      refine x_aload_n hM d_Mo_of_84 rfl 0 rfl ?_
      refine x_callV hG hM (r' := r_Mo_partAll) (ci := 11) [] rfl rfl (Nat.le_of_ble_eq_true rfl) yk_Mo_partAll ⟨Nat.le_of_ble_eq_true rfl, Nat.le_of_ble_eq_true rfl⟩ w_1140 w_1142 ws_Mo_partAll rfl rfl (Nat.le_of_ble_eq_true rfl) d_Mo_of_85 (by rw [vT V rfl]; rfl) (sem_mono (F _ _ V) ?_)
      intro u17 h F
      obtain ⟨ad19, ρ16, V, hs18, F⟩ := F
      obtain ⟨rfl, F⟩ := F
      have hs18 := (St_eq hs18).symm
      subst hs18
      refine x_iconst (v := 0) hM d_Mo_of_88 (by decide) ?_
      refine x_istore_n (lv2 := [(3, .int 0), (0, .ref (ad (40, 0, 0))), (1, .int v1), (2, .int v2)]) hM d_Mo_of_89 rfl (Nat.le_of_ble_eq_true rfl) rfl ?_
      refine x_sub [1, 2, 0] rfl ?_
      exact F _ _ hSt V
    · replace F := F.1 q21
      refine x_bipush (v := (-2)) hM d_Mo_of_17 (by decide) ?_
      exact x_ireturn hM d_Mo_of_19 rfl (y_end V hSt (F _))
set_option maxRecDepth 100000 in
set_option maxHeartbeats 4000000 in
theorem T_Mo_of_90 {G : Gc} {M : Mc} {Q : State → Prop} {ad0 : Ro → Nat} {K : (Ro → Nat) → Option Value → Rs → Prop} (hG : gok G) (hM : mok G M r_Mo_of Q (KV G [] ad0 K)) (v1 : Int32) (v3 : Int32) (ρ : Rs) (F : vp_in v3 4096 ∧ (vp_in v1 4096 ∧ (((iR ρ (41, 27, 0) (Int32.toNatClampNeg v3)) = (iR ρ (41, 27, 0) (Int32.toNatClampNeg v1)) → (∀ ad, K ad (some (.int v3)) ρ)) ∧ (¬ (iR ρ (41, 27, 0) (Int32.toNatClampNeg v3)) = (iR ρ (41, 27, 0) (Int32.toNatClampNeg v1)) → (Y G [] ad0 M Q 90 (fun ad => [(0, .ref (ad (40, 0, 0))), (1, .int v1), (3, .int (v3 + 1))]) (fun ad => []) ρ))))) : Y G [] ad0 M Q 90 (fun ad => [(0, .ref (ad (40, 0, 0))), (1, .int v1), (3, .int v3)]) (fun ad => []) ρ := by
  intro ad h hSt V
  show X G M Q 90 [(0, .ref (ad (40, 0, 0))), (1, .int v1), (3, .int v3)] [] h
  refine x_aload_n hM d_Mo_of_90 rfl 0 rfl ?_
  refine y_getr hG hM V ck_Mo 27 (Nat.le_of_ble_eq_true rfl) rfl rfl w_924 rfl d_Mo_of_91 (40, 0, 0) (41, 27, 0) rfl rfl rfl ?_
  refine x_iload_n hM d_Mo_of_94 rfl 2 rfl ?_
  obtain ⟨c1, F⟩ := F
  refine y_iaload hG hM V d_Mo_of_95 (41, 27, 0) rfl rfl (by rw [vlen V (r := (41, 27, 0)) rfl rfl]; exact c1) ?_
  refine x_aload_n hM d_Mo_of_96 rfl 0 rfl ?_
  refine y_getr hG hM V ck_Mo 27 (Nat.le_of_ble_eq_true rfl) rfl rfl w_924 rfl d_Mo_of_97 (40, 0, 0) (41, 27, 0) rfl rfl rfl ?_
  refine x_iload_n hM d_Mo_of_100 rfl 1 rfl ?_
  obtain ⟨c2, F⟩ := F
  refine y_iaload hG hM V d_Mo_of_101 (41, 27, 0) rfl rfl (by rw [vlen V (r := (41, 27, 0)) rfl rfl]; exact c2) ?_
  refine x_icmp_eq (tgt := 111) hM d_Mo_of_102 (by decide) (fun q3 => ?_) (fun q3 => ?_)
  · replace F := F.1 q3
    refine x_iload_n hM d_Mo_of_111 rfl 2 rfl ?_
    exact x_ireturn hM d_Mo_of_112 rfl (y_end V hSt (F _))
  · replace F := F.2 q3
    refine x_iinc (v := (v3 + 1)) (lv2 := [(3, .int (v3 + 1)), (0, .ref (ad (40, 0, 0))), (1, .int v1)]) hM d_Mo_of_105 (j := 2) rfl rfl (Nat.le_of_ble_eq_true rfl) rfl ?_
    refine x_goto (tgt := 90) hM d_Mo_of_108 (by decide) ?_
    refine x_sub [1, 2, 0] rfl ?_
    exact F _ _ hSt V
set_option maxRecDepth 100000 in
set_option maxHeartbeats 4000000 in
theorem T_Mo_best_0 {G : Gc} {M : Mc} {Q : State → Prop} {ad0 : Ro → Nat} {K : (Ro → Nat) → Option Value → Rs → Prop} (hG : gok G) (hM : mok G M r_Mo_best Q (KV G [] ad0 K)) (v1 : Int32) (v2 : Int32) (ρ : Rs) (F : semV G r_Mo_isState [] (fun ad => [.ref (ad (40, 0, 0)), .int v1]) ρ (fun ad u2 ρ1 => ∃ x4 : Int32, u2 = some (.int x4) ∧ ((x4 = 0 → (∀ ad, K ad (some (.int (-2))) ρ1)) ∧ (¬ x4 = 0 → (semV G r_Mo_isIn [] (fun ad => [.int v2, .int 1, .int 3]) ρ1 (fun ad u6 ρ5 => ∃ x8 : Int32, u6 = some (.int x8) ∧ ((x8 = 0 → (∀ ad, K ad (some (.int (-2))) ρ5)) ∧ (¬ x8 = 0 → (semV G r_Mo_lay [] (fun ad => [.ref (ad (40, 0, 0))]) ρ5 (fun ad u10 ρ9 => u10 = none ∧ (((v2 = 1 → vp_in v1 4096) ∧ (¬ v2 = 1 → ((v2 = 2 → vp_in v1 4096) ∧ (¬ v2 = 2 → vp_in v1 4096)))) ∧ (∀ z15 : Int32, z15 = (if v2 = 1 then (iR ρ9 (41, 20, 0) (Int32.toNatClampNeg v1)) else (if v2 = 2 then (iR ρ9 (41, 21, 0) (Int32.toNatClampNeg v1)) else (iR ρ9 (41, 22, 0) (Int32.toNatClampNeg v1)))) → ((1 ≤ z15 → (Y G [] ad0 M Q 69 (fun ad => [(0, .ref (ad (40, 0, 0))), (1, .int v1), (2, .int v2), (3, .int z15), (4, .int 0)]) (fun ad => []) ρ9)) ∧ (¬ 1 ≤ z15 → (∀ ad, K ad (some (.int (-1))) ρ9))))))))))))))) : Y G [] ad0 M Q 0 (fun ad => [(0, .ref (ad (40, 0, 0))), (1, .int v1), (2, .int v2)]) (fun ad => []) ρ := by
  intro ad h hSt V
  show X G M Q 0 [(0, .ref (ad (40, 0, 0))), (1, .int v1), (2, .int v2)] [] h
  refine x_aload_n hM d_Mo_best_0 rfl 0 rfl ?_
  refine x_iload_n hM d_Mo_best_1 rfl 1 rfl ?_
  refine x_callV hG hM (r' := r_Mo_isState) (ci := 11) [.int v1] rfl rfl (Nat.le_of_ble_eq_true rfl) yk_Mo_isState ⟨Nat.le_of_ble_eq_true rfl, Nat.le_of_ble_eq_true rfl⟩ w_1028 w_1030 ws_Mo_isState rfl rfl (Nat.le_of_ble_eq_true rfl) d_Mo_best_2 (by rw [vT V rfl]; rfl) (sem_mono (F _ _ V) ?_)
  intro u2 h F
  obtain ⟨ad23, ρ1, V, hs3, F⟩ := F
  obtain ⟨x4, rfl, F⟩ := F
  have hs3 := (St_eq hs3).symm
  subst hs3
  refine x_if_eq (tgt := 17) hM d_Mo_best_5 (by decide) (fun q22 => ?_) (fun q22 => ?_)
  · replace F := F.1 q22
    refine x_bipush (v := (-2)) hM d_Mo_best_17 (by decide) ?_
    exact x_ireturn hM d_Mo_best_19 rfl (y_end V hSt (F _))
  · replace F := F.2 q22
    refine x_iload_n hM d_Mo_best_8 rfl 2 rfl ?_
    refine x_iconst (v := 1) hM d_Mo_best_9 (by decide) ?_
    refine x_iconst (v := 3) hM d_Mo_best_10 (by decide) ?_
    refine x_callS hG hM (r' := r_Mo_isIn) [.int v2, .int 1, .int 3] rfl yk_Mo_isIn ⟨Nat.le_of_ble_eq_true rfl, Nat.le_of_ble_eq_true rfl⟩ w_1017 w_1018 rfl rfl (Nat.le_of_ble_eq_true rfl) d_Mo_best_11 (sem_mono (F _ _ V) ?_)
    intro u6 h F
    obtain ⟨ad21, ρ5, V, hs7, F⟩ := F
    obtain ⟨x8, rfl, F⟩ := F
    have hs7 := (St_eq hs7).symm
    subst hs7
    refine x_if_ne (tgt := 20) hM d_Mo_best_14 (by decide) (fun q20 => ?_) (fun q20 => ?_)
    · replace F := F.2 q20
      refine x_aload_n hM d_Mo_best_20 rfl 0 rfl ?_
      refine x_callV hG hM (r' := r_Mo_lay) (ci := 11) [] rfl rfl (Nat.le_of_ble_eq_true rfl) yk_Mo_lay ⟨Nat.le_of_ble_eq_true rfl, Nat.le_of_ble_eq_true rfl⟩ w_1112 w_1114 ws_Mo_lay rfl rfl (Nat.le_of_ble_eq_true rfl) d_Mo_best_21 (by rw [vT V rfl]; rfl) (sem_mono (F _ _ V) ?_)
      intro u10 h F
      obtain ⟨ad19, ρ9, V, hs11, F⟩ := F
      obtain ⟨rfl, F⟩ := F
      have hs11 := (St_eq hs11).symm
      subst hs11
      refine x_iload_n hM d_Mo_best_24 rfl 2 rfl ?_
      refine x_iconst (v := 1) hM d_Mo_best_25 (by decide) ?_
      obtain ⟨S, F⟩ := F
      have JJ : ∀ (z15 : Int32) (ez15 : z15 = (if v2 = 1 then (iR ρ9 (41, 20, 0) (Int32.toNatClampNeg v1)) else (if v2 = 2 then (iR ρ9 (41, 21, 0) (Int32.toNatClampNeg v1)) else (iR ρ9 (41, 22, 0) (Int32.toNatClampNeg v1))))), X G M Q 58 [(0, .ref (ad (40, 0, 0))), (1, .int v1), (2, .int v2)] [.int z15] h := by
        intro z15 ez15
        replace F := F _ ez15
        refine x_istore_n (lv2 := [(3, .int z15), (0, .ref (ad (40, 0, 0))), (1, .int v1), (2, .int v2)]) hM d_Mo_best_58 rfl (Nat.le_of_ble_eq_true rfl) rfl ?_
        refine x_iload_n hM d_Mo_best_59 rfl 0 rfl ?_
        refine x_iconst (v := 1) hM d_Mo_best_60 (by decide) ?_
        refine x_icmp_ge (tgt := 66) hM d_Mo_best_61 (by decide) (fun q16 => ?_) (fun q16 => ?_)
        · replace F := F.1 q16
          refine x_iconst (v := 0) hM d_Mo_best_66 (by decide) ?_
          refine x_istore (lv2 := [(4, .int 0), (3, .int z15), (0, .ref (ad (40, 0, 0))), (1, .int v1), (2, .int v2)]) hM d_Mo_best_67 (Nat.le_of_ble_eq_true rfl) rfl ?_
          refine x_sub [2, 3, 4, 1, 0] rfl ?_
          exact F _ _ hSt V
        · replace F := F.2 q16
          refine x_iconst (v := (-1)) hM d_Mo_best_64 (by decide) ?_
          exact x_ireturn hM d_Mo_best_65 rfl (y_end V hSt (F _))
      refine x_icmp_ne (tgt := 38) hM d_Mo_best_26 (by decide) (fun q17 => ?_) (fun q17 => ?_)
      · replace S := S.2 q17
        refine x_iload_n hM d_Mo_best_38 rfl 2 rfl ?_
        refine x_iconst (v := 2) hM d_Mo_best_39 (by decide) ?_
        refine x_icmp_ne (tgt := 52) hM d_Mo_best_40 (by decide) (fun q18 => ?_) (fun q18 => ?_)
        · replace S := S.2 q18
          refine x_aload_n hM d_Mo_best_52 rfl 0 rfl ?_
          refine y_getr hG hM V ck_Mo 22 (Nat.le_of_ble_eq_true rfl) rfl rfl w_919 rfl d_Mo_best_53 (40, 0, 0) (41, 22, 0) rfl rfl rfl ?_
          refine x_iload_n hM d_Mo_best_56 rfl 1 rfl ?_
          have c12 := S
          refine y_iaload hG hM V d_Mo_best_57 (41, 22, 0) rfl rfl (by rw [vlen V (r := (41, 22, 0)) rfl rfl]; exact c12) ?_
          exact JJ _ (Eq.symm (Eq.trans (if_neg q17) (if_neg q18)))
        · replace S := S.1 q18
          refine x_aload_n hM d_Mo_best_43 rfl 0 rfl ?_
          refine y_getr hG hM V ck_Mo 21 (Nat.le_of_ble_eq_true rfl) rfl rfl w_918 rfl d_Mo_best_44 (40, 0, 0) (41, 21, 0) rfl rfl rfl ?_
          refine x_iload_n hM d_Mo_best_47 rfl 1 rfl ?_
          have c13 := S
          refine y_iaload hG hM V d_Mo_best_48 (41, 21, 0) rfl rfl (by rw [vlen V (r := (41, 21, 0)) rfl rfl]; exact c13) ?_
          refine x_goto (tgt := 58) hM d_Mo_best_49 (by decide) ?_
          exact JJ _ (Eq.symm (Eq.trans (if_neg q17) (if_pos q18)))
      · replace S := S.1 q17
        refine x_aload_n hM d_Mo_best_29 rfl 0 rfl ?_
        refine y_getr hG hM V ck_Mo 20 (Nat.le_of_ble_eq_true rfl) rfl rfl w_917 rfl d_Mo_best_30 (40, 0, 0) (41, 20, 0) rfl rfl rfl ?_
        refine x_iload_n hM d_Mo_best_33 rfl 1 rfl ?_
        have c14 := S
        refine y_iaload hG hM V d_Mo_best_34 (41, 20, 0) rfl rfl (by rw [vlen V (r := (41, 20, 0)) rfl rfl]; exact c14) ?_
        refine x_goto (tgt := 58) hM d_Mo_best_35 (by decide) ?_
        exact JJ _ (Eq.symm (if_pos q17))
    · replace F := F.1 q20
      refine x_bipush (v := (-2)) hM d_Mo_best_17 (by decide) ?_
      exact x_ireturn hM d_Mo_best_19 rfl (y_end V hSt (F _))
set_option maxRecDepth 100000 in
set_option maxHeartbeats 4000000 in
theorem T_Mo_best_69 {G : Gc} {M : Mc} {Q : State → Prop} {ad0 : Ro → Nat} {K : (Ro → Nat) → Option Value → Rs → Prop} (hG : gok G) (hM : mok G M r_Mo_best Q (KV G [] ad0 K)) (v1 : Int32) (v2 : Int32) (v3 : Int32) (v4 : Int32) (ρ : Rs) (F : ((iR ρ (40, 0, 0) 3) ≤ v4 → (∀ ad, K ad (some (.int (-1))) ρ)) ∧ (¬ (iR ρ (40, 0, 0) 3) ≤ v4 → (Y G [] ad0 M Q 90 (fun ad => [(0, .ref (ad (40, 0, 0))), (1, .int v1), (2, .int v2), (3, .int v3), (4, .int v4), (5, .int 0), (6, .int 1), (7, .int 1), (8, .int 0)]) (fun ad => []) ρ))) : Y G [] ad0 M Q 69 (fun ad => [(0, .ref (ad (40, 0, 0))), (1, .int v1), (2, .int v2), (3, .int v3), (4, .int v4)]) (fun ad => []) ρ := by
  intro ad h hSt V
  show X G M Q 69 [(0, .ref (ad (40, 0, 0))), (1, .int v1), (2, .int v2), (3, .int v3), (4, .int v4)] [] h
  refine x_iload hM d_Mo_best_69 4 rfl ?_
  refine x_aload_n hM d_Mo_best_71 rfl 0 rfl ?_
  refine y_geti hG hM V ck_Mo 3 (Nat.le_of_ble_eq_true rfl) rfl rfl w_900 rfl d_Mo_best_72 (40, 0, 0) rfl rfl ?_
  refine x_icmp_ge (tgt := 292) hM d_Mo_best_75 (by decide) (fun q1 => ?_) (fun q1 => ?_)
  · replace F := F.1 q1
    refine x_iconst (v := (-1)) hM d_Mo_best_292 (by decide) ?_
    exact x_ireturn hM d_Mo_best_293 rfl (y_end V hSt (F _))
  · replace F := F.2 q1
    refine x_iconst (v := 0) hM d_Mo_best_78 (by decide) ?_
    refine x_istore (lv2 := [(5, .int 0), (0, .ref (ad (40, 0, 0))), (1, .int v1), (2, .int v2), (3, .int v3), (4, .int v4)]) hM d_Mo_best_79 (Nat.le_of_ble_eq_true rfl) rfl ?_
    refine x_iconst (v := 1) hM d_Mo_best_81 (by decide) ?_
    refine x_istore (lv2 := [(6, .int 1), (5, .int 0), (0, .ref (ad (40, 0, 0))), (1, .int v1), (2, .int v2), (3, .int v3), (4, .int v4)]) hM d_Mo_best_82 (Nat.le_of_ble_eq_true rfl) rfl ?_
    refine x_iconst (v := 1) hM d_Mo_best_84 (by decide) ?_
    refine x_istore (lv2 := [(7, .int 1), (6, .int 1), (5, .int 0), (0, .ref (ad (40, 0, 0))), (1, .int v1), (2, .int v2), (3, .int v3), (4, .int v4)]) hM d_Mo_best_85 (Nat.le_of_ble_eq_true rfl) rfl ?_
    refine x_iconst (v := 0) hM d_Mo_best_87 (by decide) ?_
    refine x_istore (lv2 := [(8, .int 0), (7, .int 1), (6, .int 1), (5, .int 0), (0, .ref (ad (40, 0, 0))), (1, .int v1), (2, .int v2), (3, .int v3), (4, .int v4)]) hM d_Mo_best_88 (Nat.le_of_ble_eq_true rfl) rfl ?_
    refine x_sub [4, 5, 6, 7, 8, 3, 2, 1, 0] rfl ?_
    exact F _ _ hSt V
set_option maxRecDepth 100000 in
set_option maxHeartbeats 4000000 in
theorem T_Mo_best_90 {G : Gc} {M : Mc} {Q : State → Prop} {ad0 : Ro → Nat} {K : (Ro → Nat) → Option Value → Rs → Prop} (hG : gok G) (hM : mok G M r_Mo_best Q (KV G [] ad0 K)) (v1 : Int32) (v2 : Int32) (v3 : Int32) (v4 : Int32) (v5 : Int32) (v6 : Int32) (v7 : Int32) (v8 : Int32) (ρ : Rs) (F : vp_in v4 12 ∧ (((iR ρ (41, 4, 0) (Int32.toNatClampNeg v4)) ≤ v8 → ((v2 = 1 → ((v5 = 0 → (Y G [] ad0 M Q 69 (fun ad => [(0, .ref (ad (40, 0, 0))), (1, .int v1), (2, .int v2), (3, .int v3), (4, .int (v4 + 1))]) (fun ad => []) ρ)) ∧ (¬ v5 = 0 → (∀ ad, K ad (some (.int v4)) ρ)))) ∧ (¬ v2 = 1 → ((v2 = 2 → ((v6 = 0 → (Y G [] ad0 M Q 69 (fun ad => [(0, .ref (ad (40, 0, 0))), (1, .int v1), (2, .int v2), (3, .int v3), (4, .int (v4 + 1))]) (fun ad => []) ρ)) ∧ (¬ v6 = 0 → (∀ ad, K ad (some (.int v4)) ρ)))) ∧ (¬ v2 = 2 → ((v5 = 0 → (Y G [] ad0 M Q 69 (fun ad => [(0, .ref (ad (40, 0, 0))), (1, .int v1), (2, .int v2), (3, .int v3), (4, .int (v4 + 1))]) (fun ad => []) ρ)) ∧ (¬ v5 = 0 → ((v7 = 0 → (Y G [] ad0 M Q 69 (fun ad => [(0, .ref (ad (40, 0, 0))), (1, .int v1), (2, .int v2), (3, .int v3), (4, .int (v4 + 1))]) (fun ad => []) ρ)) ∧ (¬ v7 = 0 → (∀ ad, K ad (some (.int v4)) ρ)))))))))) ∧ (¬ (iR ρ (41, 4, 0) (Int32.toNatClampNeg v4)) ≤ v8 → (vp_in (((36 * v1) + (3 * v4)) + v8) 147456 ∧ ((¬ (iR ρ (41, 14, 0) (Int32.toNatClampNeg (((36 * v1) + (3 * v4)) + v8))) = (-1) → ((v2 = 1 → vp_in (iR ρ (41, 14, 0) (Int32.toNatClampNeg (((36 * v1) + (3 * v4)) + v8))) 4096) ∧ (¬ v2 = 1 → ((v2 = 2 → vp_in (iR ρ (41, 14, 0) (Int32.toNatClampNeg (((36 * v1) + (3 * v4)) + v8))) 4096) ∧ (¬ v2 = 2 → vp_in (iR ρ (41, 14, 0) (Int32.toNatClampNeg (((36 * v1) + (3 * v4)) + v8))) 4096))))) ∧ (∀ z14 : Int32, z14 = (if (iR ρ (41, 14, 0) (Int32.toNatClampNeg (((36 * v1) + (3 * v4)) + v8))) = (-1) then (-1) else (if v2 = 1 then (iR ρ (41, 20, 0) (Int32.toNatClampNeg (iR ρ (41, 14, 0) (Int32.toNatClampNeg (((36 * v1) + (3 * v4)) + v8))))) else (if v2 = 2 then (iR ρ (41, 21, 0) (Int32.toNatClampNeg (iR ρ (41, 14, 0) (Int32.toNatClampNeg (((36 * v1) + (3 * v4)) + v8))))) else (iR ρ (41, 22, 0) (Int32.toNatClampNeg (iR ρ (41, 14, 0) (Int32.toNatClampNeg (((36 * v1) + (3 * v4)) + v8)))))))) → (∀ z15 : Int32, z15 = (if z14 = (-1) then 0 else (if v3 ≤ z14 then 0 else 1)) → (∀ z16 : Int32, z16 = (if v5 = 0 then (if z15 = 0 then 0 else 1) else 1) → (∀ z17 : Int32, z17 = (if v6 = 0 then 0 else (if z15 = 0 then 0 else 1)) → (∀ z18 : Int32, z18 = (if v7 = 0 then 0 else (if z14 = (-1) then 0 else 1)) → (Y G [] ad0 M Q 90 (fun ad => [(0, .ref (ad (40, 0, 0))), (1, .int v1), (2, .int v2), (3, .int v3), (4, .int v4), (5, .int z16), (6, .int z17), (7, .int z18), (8, .int (v8 + 1))]) (fun ad => []) ρ))))))))))) : Y G [] ad0 M Q 90 (fun ad => [(0, .ref (ad (40, 0, 0))), (1, .int v1), (2, .int v2), (3, .int v3), (4, .int v4), (5, .int v5), (6, .int v6), (7, .int v7), (8, .int v8)]) (fun ad => []) ρ := by
  intro ad h hSt V
  show X G M Q 90 [(0, .ref (ad (40, 0, 0))), (1, .int v1), (2, .int v2), (3, .int v3), (4, .int v4), (5, .int v5), (6, .int v6), (7, .int v7), (8, .int v8)] [] h
  refine x_iload hM d_Mo_best_90 8 rfl ?_
  refine x_aload_n hM d_Mo_best_92 rfl 0 rfl ?_
  refine y_getr hG hM V ck_Mo 4 (Nat.le_of_ble_eq_true rfl) rfl rfl w_901 rfl d_Mo_best_93 (40, 0, 0) (41, 4, 0) rfl rfl rfl ?_
  refine x_iload hM d_Mo_best_96 4 rfl ?_
  obtain ⟨c1, F⟩ := F
  refine y_iaload hG hM V d_Mo_best_98 (41, 4, 0) rfl rfl (by rw [vlen V (r := (41, 4, 0)) rfl rfl]; exact c1) ?_
  refine x_icmp_ge (tgt := 247) hM d_Mo_best_99 (by decide) (fun q30 => ?_) (fun q30 => ?_)
  · replace F := F.1 q30
    refine x_iload_n hM d_Mo_best_247 rfl 2 rfl ?_
    refine x_iconst (v := 1) hM d_Mo_best_248 (by decide) ?_
    refine x_icmp_ne (tgt := 260) hM d_Mo_best_249 (by decide) (fun q9 => ?_) (fun q9 => ?_)
    · replace F := F.2 q9
      refine x_iload_n hM d_Mo_best_260 rfl 2 rfl ?_
      refine x_iconst (v := 2) hM d_Mo_best_261 (by decide) ?_
      refine x_icmp_ne (tgt := 273) hM d_Mo_best_262 (by decide) (fun q7 => ?_) (fun q7 => ?_)
      · replace F := F.2 q7
        refine x_iload hM d_Mo_best_273 5 rfl ?_
        refine x_if_eq (tgt := 286) hM d_Mo_best_275 (by decide) (fun q5 => ?_) (fun q5 => ?_)
        · replace F := F.1 q5
          refine x_iinc (v := (v4 + 1)) (lv2 := [(4, .int (v4 + 1)), (0, .ref (ad (40, 0, 0))), (1, .int v1), (2, .int v2), (3, .int v3), (5, .int v5), (6, .int v6), (7, .int v7), (8, .int v8)]) hM d_Mo_best_286 (j := 4) rfl rfl (Nat.le_of_ble_eq_true rfl) rfl ?_
          refine x_goto (tgt := 69) hM d_Mo_best_289 (by decide) ?_
          refine x_sub [1, 2, 3, 4, 0] rfl ?_
          exact F _ _ hSt V
        · replace F := F.2 q5
          refine x_iload hM d_Mo_best_278 7 rfl ?_
          refine x_if_eq (tgt := 286) hM d_Mo_best_280 (by decide) (fun q4 => ?_) (fun q4 => ?_)
          · replace F := F.1 q4
            refine x_iinc (v := (v4 + 1)) (lv2 := [(4, .int (v4 + 1)), (0, .ref (ad (40, 0, 0))), (1, .int v1), (2, .int v2), (3, .int v3), (5, .int v5), (6, .int v6), (7, .int v7), (8, .int v8)]) hM d_Mo_best_286 (j := 4) rfl rfl (Nat.le_of_ble_eq_true rfl) rfl ?_
            refine x_goto (tgt := 69) hM d_Mo_best_289 (by decide) ?_
            refine x_sub [1, 2, 3, 4, 0] rfl ?_
            exact F _ _ hSt V
          · replace F := F.2 q4
            refine x_iload hM d_Mo_best_283 4 rfl ?_
            exact x_ireturn hM d_Mo_best_285 rfl (y_end V hSt (F _))
      · replace F := F.1 q7
        refine x_iload hM d_Mo_best_265 6 rfl ?_
        refine x_if_eq (tgt := 286) hM d_Mo_best_267 (by decide) (fun q6 => ?_) (fun q6 => ?_)
        · replace F := F.1 q6
          refine x_iinc (v := (v4 + 1)) (lv2 := [(4, .int (v4 + 1)), (0, .ref (ad (40, 0, 0))), (1, .int v1), (2, .int v2), (3, .int v3), (5, .int v5), (6, .int v6), (7, .int v7), (8, .int v8)]) hM d_Mo_best_286 (j := 4) rfl rfl (Nat.le_of_ble_eq_true rfl) rfl ?_
          refine x_goto (tgt := 69) hM d_Mo_best_289 (by decide) ?_
          refine x_sub [1, 2, 3, 4, 0] rfl ?_
          exact F _ _ hSt V
        · replace F := F.2 q6
          refine x_goto (tgt := 283) hM d_Mo_best_270 (by decide) ?_
          refine x_iload hM d_Mo_best_283 4 rfl ?_
          exact x_ireturn hM d_Mo_best_285 rfl (y_end V hSt (F _))
    · replace F := F.1 q9
      refine x_iload hM d_Mo_best_252 5 rfl ?_
      refine x_if_eq (tgt := 286) hM d_Mo_best_254 (by decide) (fun q8 => ?_) (fun q8 => ?_)
      · replace F := F.1 q8
        refine x_iinc (v := (v4 + 1)) (lv2 := [(4, .int (v4 + 1)), (0, .ref (ad (40, 0, 0))), (1, .int v1), (2, .int v2), (3, .int v3), (5, .int v5), (6, .int v6), (7, .int v7), (8, .int v8)]) hM d_Mo_best_286 (j := 4) rfl rfl (Nat.le_of_ble_eq_true rfl) rfl ?_
        refine x_goto (tgt := 69) hM d_Mo_best_289 (by decide) ?_
        refine x_sub [1, 2, 3, 4, 0] rfl ?_
        exact F _ _ hSt V
      · replace F := F.2 q8
        refine x_goto (tgt := 283) hM d_Mo_best_257 (by decide) ?_
        refine x_iload hM d_Mo_best_283 4 rfl ?_
        exact x_ireturn hM d_Mo_best_285 rfl (y_end V hSt (F _))
  · replace F := F.2 q30
    refine x_aload_n hM d_Mo_best_102 rfl 0 rfl ?_
    refine y_getr hG hM V ck_Mo 14 (Nat.le_of_ble_eq_true rfl) rfl rfl w_911 rfl d_Mo_best_103 (40, 0, 0) (41, 14, 0) rfl rfl rfl ?_
    refine x_bipush (v := 36) hM d_Mo_best_106 (by decide) ?_
    refine x_iload_n hM d_Mo_best_108 rfl 1 rfl ?_
    refine x_imul hM d_Mo_best_109 ?_
    refine x_iconst (v := 3) hM d_Mo_best_110 (by decide) ?_
    refine x_iload hM d_Mo_best_111 4 rfl ?_
    refine x_imul hM d_Mo_best_113 ?_
    refine x_iadd hM d_Mo_best_114 ?_
    refine x_iload hM d_Mo_best_115 8 rfl ?_
    refine x_iadd hM d_Mo_best_117 ?_
    obtain ⟨c10, F⟩ := F
    refine y_iaload hG hM V d_Mo_best_118 (41, 14, 0) rfl rfl (by rw [vlen V (r := (41, 14, 0)) rfl rfl]; exact c10) ?_
    refine x_istore (lv2 := [(9, .int (iR ρ (41, 14, 0) (Int32.toNatClampNeg (((36 * v1) + (3 * v4)) + v8)))), (0, .ref (ad (40, 0, 0))), (1, .int v1), (2, .int v2), (3, .int v3), (4, .int v4), (5, .int v5), (6, .int v6), (7, .int v7), (8, .int v8)]) hM d_Mo_best_119 (Nat.le_of_ble_eq_true rfl) rfl ?_
    refine x_iload hM d_Mo_best_121 0 rfl ?_
    refine x_iconst (v := (-1)) hM d_Mo_best_123 (by decide) ?_
    obtain ⟨S, F⟩ := F
    have JJ : ∀ (z14 : Int32) (ez14 : z14 = (if (iR ρ (41, 14, 0) (Int32.toNatClampNeg (((36 * v1) + (3 * v4)) + v8))) = (-1) then (-1) else (if v2 = 1 then (iR ρ (41, 20, 0) (Int32.toNatClampNeg (iR ρ (41, 14, 0) (Int32.toNatClampNeg (((36 * v1) + (3 * v4)) + v8))))) else (if v2 = 2 then (iR ρ (41, 21, 0) (Int32.toNatClampNeg (iR ρ (41, 14, 0) (Int32.toNatClampNeg (((36 * v1) + (3 * v4)) + v8))))) else (iR ρ (41, 22, 0) (Int32.toNatClampNeg (iR ρ (41, 14, 0) (Int32.toNatClampNeg (((36 * v1) + (3 * v4)) + v8))))))))), X G M Q 168 [(0, .ref (ad (40, 0, 0))), (1, .int v1), (2, .int v2), (3, .int v3), (4, .int v4), (5, .int v5), (6, .int v6), (7, .int v7), (8, .int v8)] [.int z14] h := by
      intro z14 ez14
      replace F := F _ ez14
      refine x_istore (lv2 := [(10, .int z14), (0, .ref (ad (40, 0, 0))), (1, .int v1), (2, .int v2), (3, .int v3), (4, .int v4), (5, .int v5), (6, .int v6), (7, .int v7), (8, .int v8)]) hM d_Mo_best_168 (Nat.le_of_ble_eq_true rfl) rfl ?_
      refine x_iload hM d_Mo_best_170 0 rfl ?_
      refine x_iconst (v := (-1)) hM d_Mo_best_172 (by decide) ?_
      have JJ : ∀ (z15 : Int32) (ez15 : z15 = (if z14 = (-1) then 0 else (if v3 ≤ z14 then 0 else 1))), X G M Q 187 [(0, .ref (ad (40, 0, 0))), (1, .int v1), (2, .int v2), (3, .int v3), (4, .int v4), (5, .int v5), (6, .int v6), (7, .int v7), (8, .int v8), (10, .int z14)] [.int z15] h := by
        intro z15 ez15
        replace F := F _ ez15
        refine x_istore (lv2 := [(11, .int z15), (0, .ref (ad (40, 0, 0))), (1, .int v1), (2, .int v2), (3, .int v3), (4, .int v4), (5, .int v5), (6, .int v6), (7, .int v7), (8, .int v8), (10, .int z14)]) hM d_Mo_best_187 (Nat.le_of_ble_eq_true rfl) rfl ?_
        refine x_iload hM d_Mo_best_189 6 rfl ?_
        have JJ : ∀ (z16 : Int32) (ez16 : z16 = (if v5 = 0 then (if z15 = 0 then 0 else 1) else 1)), X G M Q 204 [(0, .ref (ad (40, 0, 0))), (1, .int v1), (2, .int v2), (3, .int v3), (4, .int v4), (6, .int v6), (7, .int v7), (8, .int v8), (10, .int z14), (11, .int z15)] [.int z16] h := by
          intro z16 ez16
          replace F := F _ ez16
          refine x_istore (lv2 := [(5, .int z16), (0, .ref (ad (40, 0, 0))), (1, .int v1), (2, .int v2), (3, .int v3), (4, .int v4), (6, .int v6), (7, .int v7), (8, .int v8), (10, .int z14), (11, .int z15)]) hM d_Mo_best_204 (Nat.le_of_ble_eq_true rfl) rfl ?_
          refine x_iload hM d_Mo_best_206 6 rfl ?_
          have JJ : ∀ (z17 : Int32) (ez17 : z17 = (if v6 = 0 then 0 else (if z15 = 0 then 0 else 1))), X G M Q 221 [(0, .ref (ad (40, 0, 0))), (1, .int v1), (2, .int v2), (3, .int v3), (4, .int v4), (5, .int z16), (7, .int v7), (8, .int v8), (10, .int z14)] [.int z17] h := by
            intro z17 ez17
            replace F := F _ ez17
            refine x_istore (lv2 := [(6, .int z17), (0, .ref (ad (40, 0, 0))), (1, .int v1), (2, .int v2), (3, .int v3), (4, .int v4), (5, .int z16), (7, .int v7), (8, .int v8), (10, .int z14)]) hM d_Mo_best_221 (Nat.le_of_ble_eq_true rfl) rfl ?_
            refine x_iload hM d_Mo_best_223 7 rfl ?_
            have JJ : ∀ (z18 : Int32) (ez18 : z18 = (if v7 = 0 then 0 else (if z14 = (-1) then 0 else 1))), X G M Q 239 [(0, .ref (ad (40, 0, 0))), (1, .int v1), (2, .int v2), (3, .int v3), (4, .int v4), (5, .int z16), (6, .int z17), (8, .int v8)] [.int z18] h := by
              intro z18 ez18
              replace F := F _ ez18
              refine x_istore (lv2 := [(7, .int z18), (0, .ref (ad (40, 0, 0))), (1, .int v1), (2, .int v2), (3, .int v3), (4, .int v4), (5, .int z16), (6, .int z17), (8, .int v8)]) hM d_Mo_best_239 (Nat.le_of_ble_eq_true rfl) rfl ?_
              refine x_iinc (v := (v8 + 1)) (lv2 := [(8, .int (v8 + 1)), (7, .int z18), (0, .ref (ad (40, 0, 0))), (1, .int v1), (2, .int v2), (3, .int v3), (4, .int v4), (5, .int z16), (6, .int z17)]) hM d_Mo_best_241 (j := 8) rfl rfl (Nat.le_of_ble_eq_true rfl) rfl ?_
              refine x_goto (tgt := 90) hM d_Mo_best_244 (by decide) ?_
              refine x_sub [2, 3, 4, 5, 6, 7, 8, 1, 0] rfl ?_
              exact F _ _ hSt V
            refine x_if_eq (tgt := 238) hM d_Mo_best_225 (by decide) (fun q19 => ?_) (fun q19 => ?_)
            · refine x_iconst (v := 0) hM d_Mo_best_238 (by decide) ?_
              refine x_sub [1, 2, 3, 4, 5, 6, 0, 8] rfl ?_
              exact JJ _ (Eq.symm (if_pos q19))
            · refine x_iload hM d_Mo_best_228 9 rfl ?_
              refine x_iconst (v := (-1)) hM d_Mo_best_230 (by decide) ?_
              refine x_icmp_eq (tgt := 238) hM d_Mo_best_231 (by decide) (fun q20 => ?_) (fun q20 => ?_)
              · refine x_iconst (v := 0) hM d_Mo_best_238 (by decide) ?_
                refine x_sub [1, 2, 3, 4, 5, 6, 0, 8] rfl ?_
                exact JJ _ (Eq.symm (Eq.trans (if_neg q19) (if_pos q20)))
              · refine x_iconst (v := 1) hM d_Mo_best_234 (by decide) ?_
                refine x_goto (tgt := 239) hM d_Mo_best_235 (by decide) ?_
                refine x_sub [1, 2, 3, 4, 5, 6, 0, 8] rfl ?_
                exact JJ _ (Eq.symm (Eq.trans (if_neg q19) (if_neg q20)))
          refine x_if_eq (tgt := 220) hM d_Mo_best_208 (by decide) (fun q21 => ?_) (fun q21 => ?_)
          · refine x_iconst (v := 0) hM d_Mo_best_220 (by decide) ?_
            refine x_sub [1, 2, 3, 4, 5, 0, 7, 8, 9] rfl ?_
            exact JJ _ (Eq.symm (if_pos q21))
          · refine x_iload hM d_Mo_best_211 10 rfl ?_
            refine x_if_eq (tgt := 220) hM d_Mo_best_213 (by decide) (fun q22 => ?_) (fun q22 => ?_)
            · refine x_iconst (v := 0) hM d_Mo_best_220 (by decide) ?_
              refine x_sub [1, 2, 3, 4, 5, 0, 7, 8, 9] rfl ?_
              exact JJ _ (Eq.symm (Eq.trans (if_neg q21) (if_pos q22)))
            · refine x_iconst (v := 1) hM d_Mo_best_216 (by decide) ?_
              refine x_goto (tgt := 221) hM d_Mo_best_217 (by decide) ?_
              refine x_sub [1, 2, 3, 4, 5, 0, 7, 8, 9] rfl ?_
              exact JJ _ (Eq.symm (Eq.trans (if_neg q21) (if_neg q22)))
        refine x_if_ne (tgt := 199) hM d_Mo_best_191 (by decide) (fun q23 => ?_) (fun q23 => ?_)
        · refine x_iconst (v := 1) hM d_Mo_best_199 (by decide) ?_
          refine x_goto (tgt := 204) hM d_Mo_best_200 (by decide) ?_
          refine x_sub [1, 2, 3, 4, 5, 7, 8, 9, 10, 0] rfl ?_
          exact JJ _ (Eq.symm (if_neg q23))
        · refine x_iload hM d_Mo_best_194 0 rfl ?_
          refine x_if_eq (tgt := 203) hM d_Mo_best_196 (by decide) (fun q24 => ?_) (fun q24 => ?_)
          · refine x_iconst (v := 0) hM d_Mo_best_203 (by decide) ?_
            refine x_sub [1, 2, 3, 4, 5, 7, 8, 9, 10, 0] rfl ?_
            exact JJ _ (Eq.symm (Eq.trans (if_pos q23) (if_pos q24)))
          · refine x_iconst (v := 1) hM d_Mo_best_199 (by decide) ?_
            refine x_goto (tgt := 204) hM d_Mo_best_200 (by decide) ?_
            refine x_sub [1, 2, 3, 4, 5, 7, 8, 9, 10, 0] rfl ?_
            exact JJ _ (Eq.symm (Eq.trans (if_pos q23) (if_neg q24)))
      refine x_icmp_eq (tgt := 186) hM d_Mo_best_173 (by decide) (fun q25 => ?_) (fun q25 => ?_)
      · refine x_iconst (v := 0) hM d_Mo_best_186 (by decide) ?_
        refine x_sub [1, 2, 3, 4, 5, 6, 7, 8, 9, 0] rfl ?_
        exact JJ _ (Eq.symm (if_pos q25))
      · refine x_iload hM d_Mo_best_176 0 rfl ?_
        refine x_iload_n hM d_Mo_best_178 rfl 4 rfl ?_
        refine x_icmp_ge (tgt := 186) hM d_Mo_best_179 (by decide) (fun q26 => ?_) (fun q26 => ?_)
        · refine x_iconst (v := 0) hM d_Mo_best_186 (by decide) ?_
          refine x_sub [1, 2, 3, 4, 5, 6, 7, 8, 9, 0] rfl ?_
          exact JJ _ (Eq.symm (Eq.trans (if_neg q25) (if_pos q26)))
        · refine x_iconst (v := 1) hM d_Mo_best_182 (by decide) ?_
          refine x_goto (tgt := 187) hM d_Mo_best_183 (by decide) ?_
          refine x_sub [1, 2, 3, 4, 5, 6, 7, 8, 9, 0] rfl ?_
          exact JJ _ (Eq.symm (Eq.trans (if_neg q25) (if_neg q26)))
    refine x_icmp_ne (tgt := 131) hM d_Mo_best_124 (by decide) (fun q27 => ?_) (fun q27 => ?_)
    · replace S := S q27
      refine x_iload_n hM d_Mo_best_131 rfl 3 rfl ?_
      refine x_iconst (v := 1) hM d_Mo_best_132 (by decide) ?_
      refine x_icmp_ne (tgt := 146) hM d_Mo_best_133 (by decide) (fun q28 => ?_) (fun q28 => ?_)
      · replace S := S.2 q28
        refine x_iload_n hM d_Mo_best_146 rfl 3 rfl ?_
        refine x_iconst (v := 2) hM d_Mo_best_147 (by decide) ?_
        refine x_icmp_ne (tgt := 161) hM d_Mo_best_148 (by decide) (fun q29 => ?_) (fun q29 => ?_)
        · replace S := S.2 q29
          refine x_aload_n hM d_Mo_best_161 rfl 1 rfl ?_
          refine y_getr hG hM V ck_Mo 22 (Nat.le_of_ble_eq_true rfl) rfl rfl w_919 rfl d_Mo_best_162 (40, 0, 0) (41, 22, 0) rfl rfl rfl ?_
          refine x_iload hM d_Mo_best_165 0 rfl ?_
          have c11 := S
          refine y_iaload hG hM V d_Mo_best_167 (41, 22, 0) rfl rfl (by rw [vlen V (r := (41, 22, 0)) rfl rfl]; exact c11) ?_
          refine x_sub [1, 2, 3, 4, 5, 6, 7, 8, 9] rfl ?_
          exact JJ _ (Eq.symm (Eq.trans (if_neg q27) (Eq.trans (if_neg q28) (if_neg q29))))
        · replace S := S.1 q29
          refine x_aload_n hM d_Mo_best_151 rfl 1 rfl ?_
          refine y_getr hG hM V ck_Mo 21 (Nat.le_of_ble_eq_true rfl) rfl rfl w_918 rfl d_Mo_best_152 (40, 0, 0) (41, 21, 0) rfl rfl rfl ?_
          refine x_iload hM d_Mo_best_155 0 rfl ?_
          have c12 := S
          refine y_iaload hG hM V d_Mo_best_157 (41, 21, 0) rfl rfl (by rw [vlen V (r := (41, 21, 0)) rfl rfl]; exact c12) ?_
          refine x_goto (tgt := 168) hM d_Mo_best_158 (by decide) ?_
          refine x_sub [1, 2, 3, 4, 5, 6, 7, 8, 9] rfl ?_
          exact JJ _ (Eq.symm (Eq.trans (if_neg q27) (Eq.trans (if_neg q28) (if_pos q29))))
      · replace S := S.1 q28
        refine x_aload_n hM d_Mo_best_136 rfl 1 rfl ?_
        refine y_getr hG hM V ck_Mo 20 (Nat.le_of_ble_eq_true rfl) rfl rfl w_917 rfl d_Mo_best_137 (40, 0, 0) (41, 20, 0) rfl rfl rfl ?_
        refine x_iload hM d_Mo_best_140 0 rfl ?_
        have c13 := S
        refine y_iaload hG hM V d_Mo_best_142 (41, 20, 0) rfl rfl (by rw [vlen V (r := (41, 20, 0)) rfl rfl]; exact c13) ?_
        refine x_goto (tgt := 168) hM d_Mo_best_143 (by decide) ?_
        refine x_sub [1, 2, 3, 4, 5, 6, 7, 8, 9] rfl ?_
        exact JJ _ (Eq.symm (Eq.trans (if_neg q27) (if_pos q28)))
    · refine x_iconst (v := (-1)) hM d_Mo_best_127 (by decide) ?_
      refine x_goto (tgt := 168) hM d_Mo_best_128 (by decide) ?_
      refine x_sub [1, 2, 3, 4, 5, 6, 7, 8, 9] rfl ?_
      exact JJ _ (Eq.symm (if_pos q27))
