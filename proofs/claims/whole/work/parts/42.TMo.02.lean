set_option maxRecDepth 100000 in
set_option maxHeartbeats 4000000 in
theorem T_Mo_hold_0 {G : Gc} {M : Mc} {Q : State → Prop} {ad0 : Ro → Nat} {K : (Ro → Nat) → Option Value → Rs → Prop} (hG : gok G) (hM : mok G M r_Mo_hold Q (KV G [] ad0 K)) (v1 : Int32) (ρ : Rs) (F : Y G [] ad0 M Q 4 (fun ad => [(0, .ref (ad (40, 0, 0))), (1, .int v1), (2, .int 1), (3, .int 0)]) (fun ad => []) ρ) : Y G [] ad0 M Q 0 (fun ad => [(0, .ref (ad (40, 0, 0))), (1, .int v1)]) (fun ad => []) ρ := by
  intro ad h hSt V
  show X G M Q 0 [(0, .ref (ad (40, 0, 0))), (1, .int v1)] [] h
  refine x_iconst (v := 1) hM d_Mo_hold_0 (by decide) ?_
  refine x_istore_n (lv2 := [(2, .int 1), (0, .ref (ad (40, 0, 0))), (1, .int v1)]) hM d_Mo_hold_1 rfl (Nat.le_of_ble_eq_true rfl) rfl ?_
  refine x_iconst (v := 0) hM d_Mo_hold_2 (by decide) ?_
  refine x_istore_n (lv2 := [(3, .int 0), (2, .int 1), (0, .ref (ad (40, 0, 0))), (1, .int v1)]) hM d_Mo_hold_3 rfl (Nat.le_of_ble_eq_true rfl) rfl ?_
  refine x_sub [2, 3, 1, 0] rfl ?_
  exact F _ _ hSt V
set_option maxRecDepth 100000 in
set_option maxHeartbeats 4000000 in
theorem T_Mo_hold_4 {G : Gc} {M : Mc} {Q : State → Prop} {ad0 : Ro → Nat} {K : (Ro → Nat) → Option Value → Rs → Prop} (hG : gok G) (hM : mok G M r_Mo_hold Q (KV G [] ad0 K)) (v1 : Int32) (v2 : Int32) (v3 : Int32) (ρ : Rs) (F : vp_in v1 19 ∧ (((iR ρ (41, 5, 0) (Int32.toNatClampNeg v1)) ≤ v3 → (nb v2 ∧ (∀ ad, K ad (some (.int v2)) ρ))) ∧ (¬ (iR ρ (41, 5, 0) (Int32.toNatClampNeg v1)) ≤ v3 → (vp_in ((12 * v1) + (3 * v3)) 228 ∧ (vp_in (iR ρ (41, 6, 0) (Int32.toNatClampNeg ((12 * v1) + (3 * v3)))) 8 ∧ (vp_in (((12 * v1) + (3 * v3)) + 1) 228 ∧ (vp_in (((12 * v1) + (3 * v3)) + 2) 228 ∧ ((¬ v2 = 0 → (¬ (iR ρ (41, 6, 0) (Int32.toNatClampNeg (((12 * v1) + (3 * v3)) + 1))) = 0 → (¬ (iR ρ (41, 6, 0) (Int32.toNatClampNeg (((12 * v1) + (3 * v3)) + 1))) = 1 → ((iR ρ (41, 6, 0) (Int32.toNatClampNeg (((12 * v1) + (3 * v3)) + 1))) = 2 → vp_in (iR ρ (41, 6, 0) (Int32.toNatClampNeg (((12 * v1) + (3 * v3)) + 2))) 8)))) ∧ (∀ z11 : Int32, z11 = (if v2 = 0 then 0 else (if (iR ρ (41, 6, 0) (Int32.toNatClampNeg (((12 * v1) + (3 * v3)) + 1))) = 0 then (if (iR ρ (41, 10, 0) (Int32.toNatClampNeg (iR ρ (41, 6, 0) (Int32.toNatClampNeg ((12 * v1) + (3 * v3)))))) = (iR ρ (41, 6, 0) (Int32.toNatClampNeg (((12 * v1) + (3 * v3)) + 2))) then 1 else 0) else (if (iR ρ (41, 6, 0) (Int32.toNatClampNeg (((12 * v1) + (3 * v3)) + 1))) = 1 then (if (iR ρ (41, 10, 0) (Int32.toNatClampNeg (iR ρ (41, 6, 0) (Int32.toNatClampNeg ((12 * v1) + (3 * v3)))))) = (iR ρ (41, 6, 0) (Int32.toNatClampNeg (((12 * v1) + (3 * v3)) + 2))) then 0 else 1) else (if (iR ρ (41, 6, 0) (Int32.toNatClampNeg (((12 * v1) + (3 * v3)) + 1))) = 2 then (if (iR ρ (41, 10, 0) (Int32.toNatClampNeg (iR ρ (41, 6, 0) (Int32.toNatClampNeg ((12 * v1) + (3 * v3)))))) = (iR ρ (41, 10, 0) (Int32.toNatClampNeg (iR ρ (41, 6, 0) (Int32.toNatClampNeg (((12 * v1) + (3 * v3)) + 2))))) then 1 else 0) else (if (iR ρ (41, 6, 0) (Int32.toNatClampNeg (((12 * v1) + (3 * v3)) + 2))) ≤ (iR ρ (41, 10, 0) (Int32.toNatClampNeg (iR ρ (41, 6, 0) (Int32.toNatClampNeg ((12 * v1) + (3 * v3)))))) then 0 else 1))))) → (Y G [] ad0 M Q 4 (fun ad => [(0, .ref (ad (40, 0, 0))), (1, .int v1), (2, .int z11), (3, .int (v3 + 1))]) (fun ad => []) ρ)))))))))) : Y G [] ad0 M Q 4 (fun ad => [(0, .ref (ad (40, 0, 0))), (1, .int v1), (2, .int v2), (3, .int v3)]) (fun ad => []) ρ := by
  intro ad h hSt V
  show X G M Q 4 [(0, .ref (ad (40, 0, 0))), (1, .int v1), (2, .int v2), (3, .int v3)] [] h
  refine x_iload_n hM d_Mo_hold_4 rfl 3 rfl ?_
  refine x_aload_n hM d_Mo_hold_5 rfl 0 rfl ?_
  refine y_getr hG hM V ck_Mo 5 (Nat.le_of_ble_eq_true rfl) rfl rfl w_902 rfl d_Mo_hold_6 (40, 0, 0) (41, 5, 0) rfl rfl rfl ?_
  refine x_iload_n hM d_Mo_hold_9 rfl 1 rfl ?_
  obtain ⟨c1, F⟩ := F
  refine y_iaload hG hM V d_Mo_hold_10 (41, 5, 0) rfl rfl (by rw [vlen V (r := (41, 5, 0)) rfl rfl]; exact c1) ?_
  refine x_icmp_ge (tgt := 143) hM d_Mo_hold_11 (by decide) (fun q20 => ?_) (fun q20 => ?_)
  · replace F := F.1 q20
    refine x_iload_n hM d_Mo_hold_143 rfl 2 rfl ?_
    exact x_zreturn hM d_Mo_hold_144 rfl F.1 (y_end V hSt (F.2 _))
  · replace F := F.2 q20
    refine x_aload_n hM d_Mo_hold_14 rfl 0 rfl ?_
    refine y_getr hG hM V ck_Mo 10 (Nat.le_of_ble_eq_true rfl) rfl rfl w_907 rfl d_Mo_hold_15 (40, 0, 0) (41, 10, 0) rfl rfl rfl ?_
    refine x_aload_n hM d_Mo_hold_18 rfl 0 rfl ?_
    refine y_getr hG hM V ck_Mo 6 (Nat.le_of_ble_eq_true rfl) rfl rfl w_903 rfl d_Mo_hold_19 (40, 0, 0) (41, 6, 0) rfl rfl rfl ?_
    refine x_bipush (v := 12) hM d_Mo_hold_22 (by decide) ?_
    refine x_iload_n hM d_Mo_hold_24 rfl 1 rfl ?_
    refine x_imul hM d_Mo_hold_25 ?_
    refine x_iconst (v := 3) hM d_Mo_hold_26 (by decide) ?_
    refine x_iload_n hM d_Mo_hold_27 rfl 3 rfl ?_
    refine x_imul hM d_Mo_hold_28 ?_
    refine x_iadd hM d_Mo_hold_29 ?_
    obtain ⟨c6, F⟩ := F
    refine y_iaload hG hM V d_Mo_hold_30 (41, 6, 0) rfl rfl (by rw [vlen V (r := (41, 6, 0)) rfl rfl]; exact c6) ?_
    obtain ⟨c7, F⟩ := F
    refine y_iaload hG hM V d_Mo_hold_31 (41, 10, 0) rfl rfl (by rw [vlen V (r := (41, 10, 0)) rfl rfl]; exact c7) ?_
    refine x_istore (lv2 := [(4, .int (iR ρ (41, 10, 0) (Int32.toNatClampNeg (iR ρ (41, 6, 0) (Int32.toNatClampNeg ((12 * v1) + (3 * v3))))))), (0, .ref (ad (40, 0, 0))), (1, .int v1), (2, .int v2), (3, .int v3)]) hM d_Mo_hold_32 (Nat.le_of_ble_eq_true rfl) rfl ?_
    refine x_aload_n hM d_Mo_hold_34 rfl 1 rfl ?_
    refine y_getr hG hM V ck_Mo 6 (Nat.le_of_ble_eq_true rfl) rfl rfl w_903 rfl d_Mo_hold_35 (40, 0, 0) (41, 6, 0) rfl rfl rfl ?_
    refine x_bipush (v := 12) hM d_Mo_hold_38 (by decide) ?_
    refine x_iload_n hM d_Mo_hold_40 rfl 2 rfl ?_
    refine x_imul hM d_Mo_hold_41 ?_
    refine x_iconst (v := 3) hM d_Mo_hold_42 (by decide) ?_
    refine x_iload_n hM d_Mo_hold_43 rfl 4 rfl ?_
    refine x_imul hM d_Mo_hold_44 ?_
    refine x_iadd hM d_Mo_hold_45 ?_
    refine x_iconst (v := 1) hM d_Mo_hold_46 (by decide) ?_
    refine x_iadd hM d_Mo_hold_47 ?_
    obtain ⟨c8, F⟩ := F
    refine y_iaload hG hM V d_Mo_hold_48 (41, 6, 0) rfl rfl (by rw [vlen V (r := (41, 6, 0)) rfl rfl]; exact c8) ?_
    refine x_istore (lv2 := [(5, .int (iR ρ (41, 6, 0) (Int32.toNatClampNeg (((12 * v1) + (3 * v3)) + 1)))), (4, .int (iR ρ (41, 10, 0) (Int32.toNatClampNeg (iR ρ (41, 6, 0) (Int32.toNatClampNeg ((12 * v1) + (3 * v3))))))), (0, .ref (ad (40, 0, 0))), (1, .int v1), (2, .int v2), (3, .int v3)]) hM d_Mo_hold_49 (Nat.le_of_ble_eq_true rfl) rfl ?_
    refine x_aload_n hM d_Mo_hold_51 rfl 2 rfl ?_
    refine y_getr hG hM V ck_Mo 6 (Nat.le_of_ble_eq_true rfl) rfl rfl w_903 rfl d_Mo_hold_52 (40, 0, 0) (41, 6, 0) rfl rfl rfl ?_
    refine x_bipush (v := 12) hM d_Mo_hold_55 (by decide) ?_
    refine x_iload_n hM d_Mo_hold_57 rfl 3 rfl ?_
    refine x_imul hM d_Mo_hold_58 ?_
    refine x_iconst (v := 3) hM d_Mo_hold_59 (by decide) ?_
    refine x_iload_n hM d_Mo_hold_60 rfl 5 rfl ?_
    refine x_imul hM d_Mo_hold_61 ?_
    refine x_iadd hM d_Mo_hold_62 ?_
    refine x_iconst (v := 2) hM d_Mo_hold_63 (by decide) ?_
    refine x_iadd hM d_Mo_hold_64 ?_
    obtain ⟨c9, F⟩ := F
    refine y_iaload hG hM V d_Mo_hold_65 (41, 6, 0) rfl rfl (by rw [vlen V (r := (41, 6, 0)) rfl rfl]; exact c9) ?_
    refine x_istore (lv2 := [(6, .int (iR ρ (41, 6, 0) (Int32.toNatClampNeg (((12 * v1) + (3 * v3)) + 2)))), (5, .int (iR ρ (41, 6, 0) (Int32.toNatClampNeg (((12 * v1) + (3 * v3)) + 1)))), (4, .int (iR ρ (41, 10, 0) (Int32.toNatClampNeg (iR ρ (41, 6, 0) (Int32.toNatClampNeg ((12 * v1) + (3 * v3))))))), (0, .ref (ad (40, 0, 0))), (1, .int v1), (2, .int v2), (3, .int v3)]) hM d_Mo_hold_66 (Nat.le_of_ble_eq_true rfl) rfl ?_
    refine x_iload_n hM d_Mo_hold_68 rfl 5 rfl ?_
    obtain ⟨S, F⟩ := F
    have JJ : ∀ (z11 : Int32) (ez11 : z11 = (if v2 = 0 then 0 else (if (iR ρ (41, 6, 0) (Int32.toNatClampNeg (((12 * v1) + (3 * v3)) + 1))) = 0 then (if (iR ρ (41, 10, 0) (Int32.toNatClampNeg (iR ρ (41, 6, 0) (Int32.toNatClampNeg ((12 * v1) + (3 * v3)))))) = (iR ρ (41, 6, 0) (Int32.toNatClampNeg (((12 * v1) + (3 * v3)) + 2))) then 1 else 0) else (if (iR ρ (41, 6, 0) (Int32.toNatClampNeg (((12 * v1) + (3 * v3)) + 1))) = 1 then (if (iR ρ (41, 10, 0) (Int32.toNatClampNeg (iR ρ (41, 6, 0) (Int32.toNatClampNeg ((12 * v1) + (3 * v3)))))) = (iR ρ (41, 6, 0) (Int32.toNatClampNeg (((12 * v1) + (3 * v3)) + 2))) then 0 else 1) else (if (iR ρ (41, 6, 0) (Int32.toNatClampNeg (((12 * v1) + (3 * v3)) + 1))) = 2 then (if (iR ρ (41, 10, 0) (Int32.toNatClampNeg (iR ρ (41, 6, 0) (Int32.toNatClampNeg ((12 * v1) + (3 * v3)))))) = (iR ρ (41, 10, 0) (Int32.toNatClampNeg (iR ρ (41, 6, 0) (Int32.toNatClampNeg (((12 * v1) + (3 * v3)) + 2))))) then 1 else 0) else (if (iR ρ (41, 6, 0) (Int32.toNatClampNeg (((12 * v1) + (3 * v3)) + 2))) ≤ (iR ρ (41, 10, 0) (Int32.toNatClampNeg (iR ρ (41, 6, 0) (Int32.toNatClampNeg ((12 * v1) + (3 * v3)))))) then 0 else 1)))))), X G M Q 136 [(0, .ref (ad (40, 0, 0))), (1, .int v1), (3, .int v3)] [.int z11] h := by
      intro z11 ez11
      replace F := F _ ez11
      refine x_istore_n (lv2 := [(2, .int z11), (0, .ref (ad (40, 0, 0))), (1, .int v1), (3, .int v3)]) hM d_Mo_hold_136 rfl (Nat.le_of_ble_eq_true rfl) rfl ?_
      refine x_iinc (v := (v3 + 1)) (lv2 := [(3, .int (v3 + 1)), (2, .int z11), (0, .ref (ad (40, 0, 0))), (1, .int v1)]) hM d_Mo_hold_137 (j := 3) rfl rfl (Nat.le_of_ble_eq_true rfl) rfl ?_
      refine x_goto (tgt := 4) hM d_Mo_hold_140 (by decide) ?_
      refine x_sub [2, 3, 1, 0] rfl ?_
      exact F _ _ hSt V
    refine x_if_eq (tgt := 135) hM d_Mo_hold_69 (by decide) (fun q12 => ?_) (fun q12 => ?_)
    · refine x_iconst (v := 0) hM d_Mo_hold_135 (by decide) ?_
      refine x_sub [3, 4, 6] rfl ?_
      exact JJ _ (Eq.symm (if_pos q12))
    · replace S := S q12
      refine x_iload hM d_Mo_hold_72 1 rfl ?_
      refine x_if_ne (tgt := 87) hM d_Mo_hold_74 (by decide) (fun q13 => ?_) (fun q13 => ?_)
      · replace S := S q13
        refine x_iload hM d_Mo_hold_87 1 rfl ?_
        refine x_iconst (v := 1) hM d_Mo_hold_89 (by decide) ?_
        refine x_icmp_ne (tgt := 103) hM d_Mo_hold_90 (by decide) (fun q14 => ?_) (fun q14 => ?_)
        · replace S := S q14
          refine x_iload hM d_Mo_hold_103 1 rfl ?_
          refine x_iconst (v := 2) hM d_Mo_hold_105 (by decide) ?_
          refine x_icmp_ne (tgt := 124) hM d_Mo_hold_106 (by decide) (fun q15 => ?_) (fun q15 => ?_)
          · refine x_iload hM d_Mo_hold_124 2 rfl ?_
            refine x_iload hM d_Mo_hold_126 0 rfl ?_
            refine x_icmp_ge (tgt := 135) hM d_Mo_hold_128 (by decide) (fun q16 => ?_) (fun q16 => ?_)
            · refine x_iconst (v := 0) hM d_Mo_hold_135 (by decide) ?_
              refine x_sub [3, 4, 6] rfl ?_
              exact JJ _ (Eq.symm (Eq.trans (if_neg q12) (Eq.trans (if_neg q13) (Eq.trans (if_neg q14) (Eq.trans (if_neg q15) (if_pos q16))))))
            · refine x_iconst (v := 1) hM d_Mo_hold_131 (by decide) ?_
              refine x_goto (tgt := 136) hM d_Mo_hold_132 (by decide) ?_
              refine x_sub [3, 4, 6] rfl ?_
              exact JJ _ (Eq.symm (Eq.trans (if_neg q12) (Eq.trans (if_neg q13) (Eq.trans (if_neg q14) (Eq.trans (if_neg q15) (if_neg q16))))))
          · replace S := S q15
            refine x_iload hM d_Mo_hold_109 2 rfl ?_
            refine x_aload_n hM d_Mo_hold_111 rfl 3 rfl ?_
            refine y_getr hG hM V ck_Mo 10 (Nat.le_of_ble_eq_true rfl) rfl rfl w_907 rfl d_Mo_hold_112 (40, 0, 0) (41, 10, 0) rfl rfl rfl ?_
            refine x_iload hM d_Mo_hold_115 0 rfl ?_
            have c10 := S
            refine y_iaload hG hM V d_Mo_hold_117 (41, 10, 0) rfl rfl (by rw [vlen V (r := (41, 10, 0)) rfl rfl]; exact c10) ?_
            refine x_icmp_ne (tgt := 135) hM d_Mo_hold_118 (by decide) (fun q17 => ?_) (fun q17 => ?_)
            · refine x_iconst (v := 0) hM d_Mo_hold_135 (by decide) ?_
              refine x_sub [3, 4, 6] rfl ?_
              exact JJ _ (Eq.symm (Eq.trans (if_neg q12) (Eq.trans (if_neg q13) (Eq.trans (if_neg q14) (Eq.trans (if_pos q15) (if_neg q17))))))
            · refine x_goto (tgt := 131) hM d_Mo_hold_121 (by decide) ?_
              refine x_iconst (v := 1) hM d_Mo_hold_131 (by decide) ?_
              refine x_goto (tgt := 136) hM d_Mo_hold_132 (by decide) ?_
              refine x_sub [3, 4, 6] rfl ?_
              exact JJ _ (Eq.symm (Eq.trans (if_neg q12) (Eq.trans (if_neg q13) (Eq.trans (if_neg q14) (Eq.trans (if_pos q15) (if_pos q17))))))
        · refine x_iload hM d_Mo_hold_93 2 rfl ?_
          refine x_iload hM d_Mo_hold_95 0 rfl ?_
          refine x_icmp_eq (tgt := 135) hM d_Mo_hold_97 (by decide) (fun q18 => ?_) (fun q18 => ?_)
          · refine x_iconst (v := 0) hM d_Mo_hold_135 (by decide) ?_
            refine x_sub [3, 4, 6] rfl ?_
            exact JJ _ (Eq.symm (Eq.trans (if_neg q12) (Eq.trans (if_neg q13) (Eq.trans (if_pos q14) (if_pos q18)))))
          · refine x_goto (tgt := 131) hM d_Mo_hold_100 (by decide) ?_
            refine x_iconst (v := 1) hM d_Mo_hold_131 (by decide) ?_
            refine x_goto (tgt := 136) hM d_Mo_hold_132 (by decide) ?_
            refine x_sub [3, 4, 6] rfl ?_
            exact JJ _ (Eq.symm (Eq.trans (if_neg q12) (Eq.trans (if_neg q13) (Eq.trans (if_pos q14) (if_neg q18)))))
      · refine x_iload hM d_Mo_hold_77 2 rfl ?_
        refine x_iload hM d_Mo_hold_79 0 rfl ?_
        refine x_icmp_ne (tgt := 135) hM d_Mo_hold_81 (by decide) (fun q19 => ?_) (fun q19 => ?_)
        · refine x_iconst (v := 0) hM d_Mo_hold_135 (by decide) ?_
          refine x_sub [3, 4, 6] rfl ?_
          exact JJ _ (Eq.symm (Eq.trans (if_neg q12) (Eq.trans (if_pos q13) (if_neg q19))))
        · refine x_goto (tgt := 131) hM d_Mo_hold_84 (by decide) ?_
          refine x_iconst (v := 1) hM d_Mo_hold_131 (by decide) ?_
          refine x_goto (tgt := 136) hM d_Mo_hold_132 (by decide) ?_
          refine x_sub [3, 4, 6] rfl ?_
          exact JJ _ (Eq.symm (Eq.trans (if_neg q12) (Eq.trans (if_pos q13) (if_pos q19))))
set_option maxRecDepth 100000 in
set_option maxHeartbeats 4000000 in
theorem T_Mo_goes_0 {G : Gc} {M : Mc} {Q : State → Prop} {ad0 : Ro → Nat} {K : (Ro → Nat) → Option Value → Rs → Prop} (hG : gok G) (hM : mok G M r_Mo_goes Q (KV G [] ad0 K)) (v1 : Int32) (ρ : Rs) (F : Y G [] ad0 M Q 2 (fun ad => [(0, .ref (ad (40, 0, 0))), (1, .int v1), (2, .int 0)]) (fun ad => []) ρ) : Y G [] ad0 M Q 0 (fun ad => [(0, .ref (ad (40, 0, 0))), (1, .int v1)]) (fun ad => []) ρ := by
  intro ad h hSt V
  show X G M Q 0 [(0, .ref (ad (40, 0, 0))), (1, .int v1)] [] h
  refine x_iconst (v := 0) hM d_Mo_goes_0 (by decide) ?_
  refine x_istore_n (lv2 := [(2, .int 0), (0, .ref (ad (40, 0, 0))), (1, .int v1)]) hM d_Mo_goes_1 rfl (Nat.le_of_ble_eq_true rfl) rfl ?_
  refine x_sub [1, 2, 0] rfl ?_
  exact F _ _ hSt V
set_option maxRecDepth 100000 in
set_option maxHeartbeats 4000000 in
theorem T_Mo_goes_2 {G : Gc} {M : Mc} {Q : State → Prop} {ad0 : Ro → Nat} {K : (Ro → Nat) → Option Value → Rs → Prop} (hG : gok G) (hM : mok G M r_Mo_goes Q (KV G [] ad0 K)) (v1 : Int32) (v2 : Int32) (ρ : Rs) (F : ((iR ρ (40, 0, 0) 0) ≤ v2 → (Y G [] ad0 M Q 30 (fun ad => [(0, .ref (ad (40, 0, 0))), (1, .int v1), (2, .int 0)]) (fun ad => []) ρ)) ∧ (¬ (iR ρ (40, 0, 0) 0) ≤ v2 → (vp_in v2 8 ∧ (vp_in v2 8 ∧ (∀ ρ3 : Rs, ρ3 = pI ρ (41, 11, 0) (Int32.toNatClampNeg v2) (iR ρ (41, 10, 0) (Int32.toNatClampNeg v2)) → (Y G [] ad0 M Q 2 (fun ad => [(0, .ref (ad (40, 0, 0))), (1, .int v1), (2, .int (v2 + 1))]) (fun ad => []) ρ3)))))) : Y G [] ad0 M Q 2 (fun ad => [(0, .ref (ad (40, 0, 0))), (1, .int v1), (2, .int v2)]) (fun ad => []) ρ := by
  intro ad h hSt V
  show X G M Q 2 [(0, .ref (ad (40, 0, 0))), (1, .int v1), (2, .int v2)] [] h
  refine x_iload_n hM d_Mo_goes_2 rfl 2 rfl ?_
  refine x_aload_n hM d_Mo_goes_3 rfl 0 rfl ?_
  refine y_geti hG hM V ck_Mo 0 (Nat.le_of_ble_eq_true rfl) rfl rfl w_897 rfl d_Mo_goes_4 (40, 0, 0) rfl rfl ?_
  refine x_icmp_ge (tgt := 28) hM d_Mo_goes_7 (by decide) (fun q5 => ?_) (fun q5 => ?_)
  · replace F := F.1 q5
    refine x_iconst (v := 0) hM d_Mo_goes_28 (by decide) ?_
    refine x_istore_n (lv2 := [(2, .int 0), (0, .ref (ad (40, 0, 0))), (1, .int v1)]) hM d_Mo_goes_29 rfl (Nat.le_of_ble_eq_true rfl) rfl ?_
    refine x_sub [1, 2, 0] rfl ?_
    exact F _ _ hSt V
  · replace F := F.2 q5
    refine x_aload_n hM d_Mo_goes_10 rfl 0 rfl ?_
    refine y_getr hG hM V ck_Mo 11 (Nat.le_of_ble_eq_true rfl) rfl rfl w_908 rfl d_Mo_goes_11 (40, 0, 0) (41, 11, 0) rfl rfl rfl ?_
    refine x_iload_n hM d_Mo_goes_14 rfl 2 rfl ?_
    refine x_aload_n hM d_Mo_goes_15 rfl 0 rfl ?_
    refine y_getr hG hM V ck_Mo 10 (Nat.le_of_ble_eq_true rfl) rfl rfl w_907 rfl d_Mo_goes_16 (40, 0, 0) (41, 10, 0) rfl rfl rfl ?_
    refine x_iload_n hM d_Mo_goes_19 rfl 2 rfl ?_
    obtain ⟨c2, F⟩ := F
    refine y_iaload hG hM V d_Mo_goes_20 (41, 10, 0) rfl rfl (by rw [vlen V (r := (41, 10, 0)) rfl rfl]; exact c2) ?_
    obtain ⟨c4, F⟩ := F
    obtain ⟨ρ3, eρ3⟩ : ∃ z : Rs, z = pI ρ (41, 11, 0) (Int32.toNatClampNeg v2) (iR ρ (41, 10, 0) (Int32.toNatClampNeg v2)) := ⟨_, rfl⟩
    replace F := F ρ3 eρ3
    refine y_iastore hG hM V d_Mo_goes_21 (41, 11, 0) rfl rfl (by rw [vlen V (r := (41, 11, 0)) rfl rfl]; exact c4) (fun h V => ?_)
    rw [← eρ3] at V
    clear eρ3
    refine x_iinc (v := (v2 + 1)) (lv2 := [(2, .int (v2 + 1)), (0, .ref (ad (40, 0, 0))), (1, .int v1)]) hM d_Mo_goes_22 (j := 2) rfl rfl (Nat.le_of_ble_eq_true rfl) rfl ?_
    refine x_goto (tgt := 2) hM d_Mo_goes_25 (by decide) ?_
    refine x_sub [1, 2, 0] rfl ?_
    exact F _ _ hSt V
set_option maxRecDepth 100000 in
set_option maxHeartbeats 4000000 in
theorem T_Mo_goes_30 {G : Gc} {M : Mc} {Q : State → Prop} {ad0 : Ro → Nat} {K : (Ro → Nat) → Option Value → Rs → Prop} (hG : gok G) (hM : mok G M r_Mo_goes Q (KV G [] ad0 K)) (v1 : Int32) (v2 : Int32) (ρ : Rs) (F : vp_in v1 36 ∧ (((iR ρ (41, 7, 0) (Int32.toNatClampNeg v1)) ≤ v2 → (semV G r_Mo_closeThen [] (fun ad => [.ref (ad (40, 0, 0))]) ρ (fun ad u8 ρ7 => ∃ x10 : Int32, u8 = some (.int x10) ∧ (∀ ad, K ad (some (.int x10)) ρ7)))) ∧ (¬ (iR ρ (41, 7, 0) (Int32.toNatClampNeg v1)) ≤ v2 → (vp_in ((12 * v1) + (3 * v2)) 432 ∧ (vp_in (((12 * v1) + (3 * v2)) + 1) 432 ∧ (vp_in (((12 * v1) + (3 * v2)) + 2) 432 ∧ ((¬ (iR ρ (41, 8, 0) (Int32.toNatClampNeg (((12 * v1) + (3 * v2)) + 1))) = 0 → (((iR ρ (41, 8, 0) (Int32.toNatClampNeg (((12 * v1) + (3 * v2)) + 1))) = 1 → (vp_in (iR ρ (41, 8, 0) (Int32.toNatClampNeg (((12 * v1) + (3 * v2)) + 2))) 8 ∧ vp_in (iR ρ (41, 8, 0) (Int32.toNatClampNeg ((12 * v1) + (3 * v2)))) 8 ∧ ¬ (iR ρ (41, 1, 0) (Int32.toNatClampNeg (iR ρ (41, 8, 0) (Int32.toNatClampNeg ((12 * v1) + (3 * v2)))))) = 0)) ∧ (¬ (iR ρ (41, 8, 0) (Int32.toNatClampNeg (((12 * v1) + (3 * v2)) + 1))) = 1 → (vp_in (iR ρ (41, 8, 0) (Int32.toNatClampNeg ((12 * v1) + (3 * v2)))) 8 ∧ vp_in (iR ρ (41, 8, 0) (Int32.toNatClampNeg ((12 * v1) + (3 * v2)))) 8 ∧ ¬ (iR ρ (41, 1, 0) (Int32.toNatClampNeg (iR ρ (41, 8, 0) (Int32.toNatClampNeg ((12 * v1) + (3 * v2)))))) = 0)))) ∧ (∀ z19 : Int32, z19 = (if (iR ρ (41, 8, 0) (Int32.toNatClampNeg (((12 * v1) + (3 * v2)) + 1))) = 0 then (iR ρ (41, 8, 0) (Int32.toNatClampNeg (((12 * v1) + (3 * v2)) + 2))) else (if (iR ρ (41, 8, 0) (Int32.toNatClampNeg (((12 * v1) + (3 * v2)) + 1))) = 1 then ((iR ρ (41, 10, 0) (Int32.toNatClampNeg (iR ρ (41, 8, 0) (Int32.toNatClampNeg (((12 * v1) + (3 * v2)) + 2))))) - (iR ρ (41, 10, 0) (Int32.toNatClampNeg (iR ρ (41, 8, 0) (Int32.toNatClampNeg (((12 * v1) + (3 * v2)) + 2))))) / (iR ρ (41, 1, 0) (Int32.toNatClampNeg (iR ρ (41, 8, 0) (Int32.toNatClampNeg ((12 * v1) + (3 * v2)))))) * (iR ρ (41, 1, 0) (Int32.toNatClampNeg (iR ρ (41, 8, 0) (Int32.toNatClampNeg ((12 * v1) + (3 * v2))))))) else (((iR ρ (41, 10, 0) (Int32.toNatClampNeg (iR ρ (41, 8, 0) (Int32.toNatClampNeg ((12 * v1) + (3 * v2)))))) + (iR ρ (41, 8, 0) (Int32.toNatClampNeg (((12 * v1) + (3 * v2)) + 2)))) - ((iR ρ (41, 10, 0) (Int32.toNatClampNeg (iR ρ (41, 8, 0) (Int32.toNatClampNeg ((12 * v1) + (3 * v2)))))) + (iR ρ (41, 8, 0) (Int32.toNatClampNeg (((12 * v1) + (3 * v2)) + 2)))) / (iR ρ (41, 1, 0) (Int32.toNatClampNeg (iR ρ (41, 8, 0) (Int32.toNatClampNeg ((12 * v1) + (3 * v2)))))) * (iR ρ (41, 1, 0) (Int32.toNatClampNeg (iR ρ (41, 8, 0) (Int32.toNatClampNeg ((12 * v1) + (3 * v2))))))))) → (vp_in (iR ρ (41, 8, 0) (Int32.toNatClampNeg ((12 * v1) + (3 * v2)))) 8 ∧ (∀ ρ20 : Rs, ρ20 = pI ρ (41, 11, 0) (Int32.toNatClampNeg (iR ρ (41, 8, 0) (Int32.toNatClampNeg ((12 * v1) + (3 * v2))))) z19 → (Y G [] ad0 M Q 30 (fun ad => [(0, .ref (ad (40, 0, 0))), (1, .int v1), (2, .int (v2 + 1))]) (fun ad => []) ρ20))))))))))) : Y G [] ad0 M Q 30 (fun ad => [(0, .ref (ad (40, 0, 0))), (1, .int v1), (2, .int v2)]) (fun ad => []) ρ := by
  intro ad h hSt V
  show X G M Q 30 [(0, .ref (ad (40, 0, 0))), (1, .int v1), (2, .int v2)] [] h
  refine x_iload_n hM d_Mo_goes_30 rfl 2 rfl ?_
  refine x_aload_n hM d_Mo_goes_31 rfl 0 rfl ?_
  refine y_getr hG hM V ck_Mo 7 (Nat.le_of_ble_eq_true rfl) rfl rfl w_904 rfl d_Mo_goes_32 (40, 0, 0) (41, 7, 0) rfl rfl rfl ?_
  refine x_iload_n hM d_Mo_goes_35 rfl 1 rfl ?_
  obtain ⟨c1, F⟩ := F
  refine y_iaload hG hM V d_Mo_goes_36 (41, 7, 0) rfl rfl (by rw [vlen V (r := (41, 7, 0)) rfl rfl]; exact c1) ?_
  refine x_icmp_ge (tgt := 149) hM d_Mo_goes_37 (by decide) (fun q26 => ?_) (fun q26 => ?_)
  · replace F := F.1 q26
    refine x_aload_n hM d_Mo_goes_149 rfl 0 rfl ?_
    refine x_callV hG hM (r' := r_Mo_closeThen) (ci := 11) [] rfl rfl (Nat.le_of_ble_eq_true rfl) yk_Mo_closeThen ⟨Nat.le_of_ble_eq_true rfl, Nat.le_of_ble_eq_true rfl⟩ w_1104 w_1106 ws_Mo_closeThen rfl rfl (Nat.le_of_ble_eq_true rfl) d_Mo_goes_150 (by rw [vT V rfl]; rfl) (sem_mono (F _ _ V) ?_)
    intro u8 h F
    obtain ⟨ad11, ρ7, V, hs9, F⟩ := F
    obtain ⟨x10, rfl, F⟩ := F
    have hs9 := (St_eq hs9).symm
    subst hs9
    exact x_ireturn hM d_Mo_goes_153 rfl (y_end V hSt (F _))
  · replace F := F.2 q26
    refine x_aload_n hM d_Mo_goes_40 rfl 0 rfl ?_
    refine y_getr hG hM V ck_Mo 8 (Nat.le_of_ble_eq_true rfl) rfl rfl w_905 rfl d_Mo_goes_41 (40, 0, 0) (41, 8, 0) rfl rfl rfl ?_
    refine x_bipush (v := 12) hM d_Mo_goes_44 (by decide) ?_
    refine x_iload_n hM d_Mo_goes_46 rfl 1 rfl ?_
    refine x_imul hM d_Mo_goes_47 ?_
    refine x_iconst (v := 3) hM d_Mo_goes_48 (by decide) ?_
    refine x_iload_n hM d_Mo_goes_49 rfl 2 rfl ?_
    refine x_imul hM d_Mo_goes_50 ?_
    refine x_iadd hM d_Mo_goes_51 ?_
    obtain ⟨c12, F⟩ := F
    refine y_iaload hG hM V d_Mo_goes_52 (41, 8, 0) rfl rfl (by rw [vlen V (r := (41, 8, 0)) rfl rfl]; exact c12) ?_
    refine x_istore_n (lv2 := [(3, .int (iR ρ (41, 8, 0) (Int32.toNatClampNeg ((12 * v1) + (3 * v2))))), (0, .ref (ad (40, 0, 0))), (1, .int v1), (2, .int v2)]) hM d_Mo_goes_53 rfl (Nat.le_of_ble_eq_true rfl) rfl ?_
    refine x_aload_n hM d_Mo_goes_54 rfl 1 rfl ?_
    refine y_getr hG hM V ck_Mo 8 (Nat.le_of_ble_eq_true rfl) rfl rfl w_905 rfl d_Mo_goes_55 (40, 0, 0) (41, 8, 0) rfl rfl rfl ?_
    refine x_bipush (v := 12) hM d_Mo_goes_58 (by decide) ?_
    refine x_iload_n hM d_Mo_goes_60 rfl 2 rfl ?_
    refine x_imul hM d_Mo_goes_61 ?_
    refine x_iconst (v := 3) hM d_Mo_goes_62 (by decide) ?_
    refine x_iload_n hM d_Mo_goes_63 rfl 3 rfl ?_
    refine x_imul hM d_Mo_goes_64 ?_
    refine x_iadd hM d_Mo_goes_65 ?_
    refine x_iconst (v := 1) hM d_Mo_goes_66 (by decide) ?_
    refine x_iadd hM d_Mo_goes_67 ?_
    obtain ⟨c13, F⟩ := F
    refine y_iaload hG hM V d_Mo_goes_68 (41, 8, 0) rfl rfl (by rw [vlen V (r := (41, 8, 0)) rfl rfl]; exact c13) ?_
    refine x_istore (lv2 := [(4, .int (iR ρ (41, 8, 0) (Int32.toNatClampNeg (((12 * v1) + (3 * v2)) + 1)))), (3, .int (iR ρ (41, 8, 0) (Int32.toNatClampNeg ((12 * v1) + (3 * v2))))), (0, .ref (ad (40, 0, 0))), (1, .int v1), (2, .int v2)]) hM d_Mo_goes_69 (Nat.le_of_ble_eq_true rfl) rfl ?_
    refine x_aload_n hM d_Mo_goes_71 rfl 2 rfl ?_
    refine y_getr hG hM V ck_Mo 8 (Nat.le_of_ble_eq_true rfl) rfl rfl w_905 rfl d_Mo_goes_72 (40, 0, 0) (41, 8, 0) rfl rfl rfl ?_
    refine x_bipush (v := 12) hM d_Mo_goes_75 (by decide) ?_
    refine x_iload_n hM d_Mo_goes_77 rfl 3 rfl ?_
    refine x_imul hM d_Mo_goes_78 ?_
    refine x_iconst (v := 3) hM d_Mo_goes_79 (by decide) ?_
    refine x_iload_n hM d_Mo_goes_80 rfl 4 rfl ?_
    refine x_imul hM d_Mo_goes_81 ?_
    refine x_iadd hM d_Mo_goes_82 ?_
    refine x_iconst (v := 2) hM d_Mo_goes_83 (by decide) ?_
    refine x_iadd hM d_Mo_goes_84 ?_
    obtain ⟨c14, F⟩ := F
    refine y_iaload hG hM V d_Mo_goes_85 (41, 8, 0) rfl rfl (by rw [vlen V (r := (41, 8, 0)) rfl rfl]; exact c14) ?_
    refine x_istore (lv2 := [(5, .int (iR ρ (41, 8, 0) (Int32.toNatClampNeg (((12 * v1) + (3 * v2)) + 2)))), (4, .int (iR ρ (41, 8, 0) (Int32.toNatClampNeg (((12 * v1) + (3 * v2)) + 1)))), (3, .int (iR ρ (41, 8, 0) (Int32.toNatClampNeg ((12 * v1) + (3 * v2))))), (0, .ref (ad (40, 0, 0))), (1, .int v1), (2, .int v2)]) hM d_Mo_goes_86 (Nat.le_of_ble_eq_true rfl) rfl ?_
    refine x_aload_n hM d_Mo_goes_88 rfl 3 rfl ?_
    refine y_getr hG hM V ck_Mo 11 (Nat.le_of_ble_eq_true rfl) rfl rfl w_908 rfl d_Mo_goes_89 (40, 0, 0) (41, 11, 0) rfl rfl rfl ?_
    refine x_iload_n hM d_Mo_goes_92 rfl 2 rfl ?_
    refine x_iload hM d_Mo_goes_93 1 rfl ?_
    obtain ⟨S, F⟩ := F
    have JJ : ∀ (z19 : Int32) (ez19 : z19 = (if (iR ρ (41, 8, 0) (Int32.toNatClampNeg (((12 * v1) + (3 * v2)) + 1))) = 0 then (iR ρ (41, 8, 0) (Int32.toNatClampNeg (((12 * v1) + (3 * v2)) + 2))) else (if (iR ρ (41, 8, 0) (Int32.toNatClampNeg (((12 * v1) + (3 * v2)) + 1))) = 1 then ((iR ρ (41, 10, 0) (Int32.toNatClampNeg (iR ρ (41, 8, 0) (Int32.toNatClampNeg (((12 * v1) + (3 * v2)) + 2))))) - (iR ρ (41, 10, 0) (Int32.toNatClampNeg (iR ρ (41, 8, 0) (Int32.toNatClampNeg (((12 * v1) + (3 * v2)) + 2))))) / (iR ρ (41, 1, 0) (Int32.toNatClampNeg (iR ρ (41, 8, 0) (Int32.toNatClampNeg ((12 * v1) + (3 * v2)))))) * (iR ρ (41, 1, 0) (Int32.toNatClampNeg (iR ρ (41, 8, 0) (Int32.toNatClampNeg ((12 * v1) + (3 * v2))))))) else (((iR ρ (41, 10, 0) (Int32.toNatClampNeg (iR ρ (41, 8, 0) (Int32.toNatClampNeg ((12 * v1) + (3 * v2)))))) + (iR ρ (41, 8, 0) (Int32.toNatClampNeg (((12 * v1) + (3 * v2)) + 2)))) - ((iR ρ (41, 10, 0) (Int32.toNatClampNeg (iR ρ (41, 8, 0) (Int32.toNatClampNeg ((12 * v1) + (3 * v2)))))) + (iR ρ (41, 8, 0) (Int32.toNatClampNeg (((12 * v1) + (3 * v2)) + 2)))) / (iR ρ (41, 1, 0) (Int32.toNatClampNeg (iR ρ (41, 8, 0) (Int32.toNatClampNeg ((12 * v1) + (3 * v2)))))) * (iR ρ (41, 1, 0) (Int32.toNatClampNeg (iR ρ (41, 8, 0) (Int32.toNatClampNeg ((12 * v1) + (3 * v2)))))))))), X G M Q 142 [(0, .ref (ad (40, 0, 0))), (1, .int v1), (2, .int v2)] [.int z19, .int (iR ρ (41, 8, 0) (Int32.toNatClampNeg ((12 * v1) + (3 * v2)))), .ref (ad (41, 11, 0))] h := by
      intro z19 ez19
      replace F := F _ ez19
      obtain ⟨c21, F⟩ := F
      obtain ⟨ρ20, eρ20⟩ : ∃ z : Rs, z = pI ρ (41, 11, 0) (Int32.toNatClampNeg (iR ρ (41, 8, 0) (Int32.toNatClampNeg ((12 * v1) + (3 * v2))))) z19 := ⟨_, rfl⟩
      replace F := F ρ20 eρ20
      refine y_iastore hG hM V d_Mo_goes_142 (41, 11, 0) rfl rfl (by rw [vlen V (r := (41, 11, 0)) rfl rfl]; exact c21) (fun h V => ?_)
      rw [← eρ20] at V
      clear eρ20
      refine x_iinc (v := (v2 + 1)) (lv2 := [(2, .int (v2 + 1)), (0, .ref (ad (40, 0, 0))), (1, .int v1)]) hM d_Mo_goes_143 (j := 2) rfl rfl (Nat.le_of_ble_eq_true rfl) rfl ?_
      refine x_goto (tgt := 30) hM d_Mo_goes_146 (by decide) ?_
      refine x_sub [1, 2, 0] rfl ?_
      exact F _ _ hSt V
    refine x_if_ne (tgt := 103) hM d_Mo_goes_95 (by decide) (fun q22 => ?_) (fun q22 => ?_)
    · replace S := S q22
      refine x_iload hM d_Mo_goes_103 1 rfl ?_
      refine x_iconst (v := 1) hM d_Mo_goes_105 (by decide) ?_
      refine x_icmp_ne (tgt := 126) hM d_Mo_goes_106 (by decide) (fun q23 => ?_) (fun q23 => ?_)
      · replace S := S.2 q23
        refine x_aload_n hM d_Mo_goes_126 rfl 3 rfl ?_
        refine y_getr hG hM V ck_Mo 10 (Nat.le_of_ble_eq_true rfl) rfl rfl w_907 rfl d_Mo_goes_127 (40, 0, 0) (41, 10, 0) rfl rfl rfl ?_
        refine x_iload_n hM d_Mo_goes_130 rfl 2 rfl ?_
        obtain ⟨c15, S⟩ := S
        refine y_iaload hG hM V d_Mo_goes_131 (41, 10, 0) rfl rfl (by rw [vlen V (r := (41, 10, 0)) rfl rfl]; exact c15) ?_
        refine x_iload hM d_Mo_goes_132 0 rfl ?_
        refine x_iadd hM d_Mo_goes_134 ?_
        refine x_aload_n hM d_Mo_goes_135 rfl 3 rfl ?_
        refine y_getr hG hM V ck_Mo 1 (Nat.le_of_ble_eq_true rfl) rfl rfl w_898 rfl d_Mo_goes_136 (40, 0, 0) (41, 1, 0) rfl rfl rfl ?_
        refine x_iload_n hM d_Mo_goes_139 rfl 2 rfl ?_
        obtain ⟨c16, S⟩ := S
        refine y_iaload hG hM V d_Mo_goes_140 (41, 1, 0) rfl rfl (by rw [vlen V (r := (41, 1, 0)) rfl rfl]; exact c16) ?_
        have c24 := S
        refine x_irem hM d_Mo_goes_141 c24 ?_
        refine x_sub [3, 4, 5] rfl ?_
        exact JJ _ (Eq.symm (Eq.trans (if_neg q22) (if_neg q23)))
      · replace S := S.1 q23
        refine x_aload_n hM d_Mo_goes_109 rfl 3 rfl ?_
        refine y_getr hG hM V ck_Mo 10 (Nat.le_of_ble_eq_true rfl) rfl rfl w_907 rfl d_Mo_goes_110 (40, 0, 0) (41, 10, 0) rfl rfl rfl ?_
        refine x_iload hM d_Mo_goes_113 0 rfl ?_
        obtain ⟨c17, S⟩ := S
        refine y_iaload hG hM V d_Mo_goes_115 (41, 10, 0) rfl rfl (by rw [vlen V (r := (41, 10, 0)) rfl rfl]; exact c17) ?_
        refine x_aload_n hM d_Mo_goes_116 rfl 3 rfl ?_
        refine y_getr hG hM V ck_Mo 1 (Nat.le_of_ble_eq_true rfl) rfl rfl w_898 rfl d_Mo_goes_117 (40, 0, 0) (41, 1, 0) rfl rfl rfl ?_
        refine x_iload_n hM d_Mo_goes_120 rfl 2 rfl ?_
        obtain ⟨c18, S⟩ := S
        refine y_iaload hG hM V d_Mo_goes_121 (41, 1, 0) rfl rfl (by rw [vlen V (r := (41, 1, 0)) rfl rfl]; exact c18) ?_
        have c25 := S
        refine x_irem hM d_Mo_goes_122 c25 ?_
        refine x_goto (tgt := 142) hM d_Mo_goes_123 (by decide) ?_
        refine x_sub [3, 4, 5] rfl ?_
        exact JJ _ (Eq.symm (Eq.trans (if_neg q22) (if_pos q23)))
    · refine x_iload hM d_Mo_goes_98 0 rfl ?_
      refine x_goto (tgt := 142) hM d_Mo_goes_100 (by decide) ?_
      refine x_sub [3, 4, 5] rfl ?_
      exact JJ _ (Eq.symm (if_pos q22))
set_option maxRecDepth 100000 in
set_option maxHeartbeats 4000000 in
theorem T_Mo_closeThen_0 {G : Gc} {M : Mc} {Q : State → Prop} {ad0 : Ro → Nat} {K : (Ro → Nat) → Option Value → Rs → Prop} (hG : gok G) (hM : mok G M r_Mo_closeThen Q (KV G [] ad0 K))  (ρ : Rs) (F : Y G [] ad0 M Q 9 (fun ad => [(0, .ref (ad (40, 0, 0))), (1, .int 0), (2, .int ((iR ρ (40, 0, 0) 0) - 1))]) (fun ad => []) ρ) : Y G [] ad0 M Q 0 (fun ad => [(0, .ref (ad (40, 0, 0)))]) (fun ad => []) ρ := by
  intro ad h hSt V
  show X G M Q 0 [(0, .ref (ad (40, 0, 0)))] [] h
  refine x_iconst (v := 0) hM d_Mo_closeThen_0 (by decide) ?_
  refine x_istore_n (lv2 := [(1, .int 0), (0, .ref (ad (40, 0, 0)))]) hM d_Mo_closeThen_1 rfl (Nat.le_of_ble_eq_true rfl) rfl ?_
  refine x_aload_n hM d_Mo_closeThen_2 rfl 1 rfl ?_
  refine y_geti hG hM V ck_Mo 0 (Nat.le_of_ble_eq_true rfl) rfl rfl w_897 rfl d_Mo_closeThen_3 (40, 0, 0) rfl rfl ?_
  refine x_iconst (v := 1) hM d_Mo_closeThen_6 (by decide) ?_
  refine x_isub hM d_Mo_closeThen_7 ?_
  refine x_istore_n (lv2 := [(2, .int ((iR ρ (40, 0, 0) 0) - 1)), (1, .int 0), (0, .ref (ad (40, 0, 0)))]) hM d_Mo_closeThen_8 rfl (Nat.le_of_ble_eq_true rfl) rfl ?_
  refine x_sub [2, 1, 0] rfl ?_
  exact F _ _ hSt V
set_option maxRecDepth 100000 in
set_option maxHeartbeats 4000000 in
theorem T_Mo_closeThen_9 {G : Gc} {M : Mc} {Q : State → Prop} {ad0 : Ro → Nat} {K : (Ro → Nat) → Option Value → Rs → Prop} (hG : gok G) (hM : mok G M r_Mo_closeThen Q (KV G [] ad0 K)) (v1 : Int32) (v2 : Int32) (ρ : Rs) (F : (v2 < 0 → (∀ ad, K ad (some (.int v1)) ρ)) ∧ (¬ v2 < 0 → (vp_in v2 8 ∧ (vp_in v2 8 ∧ (Y G [] ad0 M Q 9 (fun ad => [(0, .ref (ad (40, 0, 0))), (1, .int ((v1 * (iR ρ (41, 1, 0) (Int32.toNatClampNeg v2))) + (iR ρ (41, 11, 0) (Int32.toNatClampNeg v2)))), (2, .int (v2 + (-1)))]) (fun ad => []) ρ))))) : Y G [] ad0 M Q 9 (fun ad => [(0, .ref (ad (40, 0, 0))), (1, .int v1), (2, .int v2)]) (fun ad => []) ρ := by
  intro ad h hSt V
  show X G M Q 9 [(0, .ref (ad (40, 0, 0))), (1, .int v1), (2, .int v2)] [] h
  refine x_iload_n hM d_Mo_closeThen_9 rfl 2 rfl ?_
  refine x_if_lt (tgt := 35) hM d_Mo_closeThen_10 (by decide) (fun q5 => ?_) (fun q5 => ?_)
  · replace F := F.1 q5
    refine x_iload_n hM d_Mo_closeThen_35 rfl 1 rfl ?_
    exact x_ireturn hM d_Mo_closeThen_36 rfl (y_end V hSt (F _))
  · replace F := F.2 q5
    refine x_iload_n hM d_Mo_closeThen_13 rfl 1 rfl ?_
    refine x_aload_n hM d_Mo_closeThen_14 rfl 0 rfl ?_
    refine y_getr hG hM V ck_Mo 1 (Nat.le_of_ble_eq_true rfl) rfl rfl w_898 rfl d_Mo_closeThen_15 (40, 0, 0) (41, 1, 0) rfl rfl rfl ?_
    refine x_iload_n hM d_Mo_closeThen_18 rfl 2 rfl ?_
    obtain ⟨c3, F⟩ := F
    refine y_iaload hG hM V d_Mo_closeThen_19 (41, 1, 0) rfl rfl (by rw [vlen V (r := (41, 1, 0)) rfl rfl]; exact c3) ?_
    refine x_imul hM d_Mo_closeThen_20 ?_
    refine x_aload_n hM d_Mo_closeThen_21 rfl 0 rfl ?_
    refine y_getr hG hM V ck_Mo 11 (Nat.le_of_ble_eq_true rfl) rfl rfl w_908 rfl d_Mo_closeThen_22 (40, 0, 0) (41, 11, 0) rfl rfl rfl ?_
    refine x_iload_n hM d_Mo_closeThen_25 rfl 2 rfl ?_
    obtain ⟨c4, F⟩ := F
    refine y_iaload hG hM V d_Mo_closeThen_26 (41, 11, 0) rfl rfl (by rw [vlen V (r := (41, 11, 0)) rfl rfl]; exact c4) ?_
    refine x_iadd hM d_Mo_closeThen_27 ?_
    refine x_istore_n (lv2 := [(1, .int ((v1 * (iR ρ (41, 1, 0) (Int32.toNatClampNeg v2))) + (iR ρ (41, 11, 0) (Int32.toNatClampNeg v2)))), (0, .ref (ad (40, 0, 0))), (2, .int v2)]) hM d_Mo_closeThen_28 rfl (Nat.le_of_ble_eq_true rfl) rfl ?_
    refine x_iinc (v := (v2 + (-1))) (lv2 := [(2, .int (v2 + (-1))), (1, .int ((v1 * (iR ρ (41, 1, 0) (Int32.toNatClampNeg v2))) + (iR ρ (41, 11, 0) (Int32.toNatClampNeg v2)))), (0, .ref (ad (40, 0, 0)))]) hM d_Mo_closeThen_29 (j := 2) rfl rfl (Nat.le_of_ble_eq_true rfl) rfl ?_
    refine x_goto (tgt := 9) hM d_Mo_closeThen_32 (by decide) ?_
    refine x_sub [2, 1, 0] rfl ?_
    exact F _ _ hSt V
set_option maxRecDepth 100000 in
set_option maxHeartbeats 4000000 in
theorem T_Mo_count_0 {G : Gc} {M : Mc} {Q : State → Prop} {ad0 : Ro → Nat} {K : (Ro → Nat) → Option Value → Rs → Prop} (hG : gok G) (hM : mok G M r_Mo_count Q (KV G [] ad0 K)) (v1 : Int32) (ρ : Rs) (F : semV G r_Mo_lay [] (fun ad => [.ref (ad (40, 0, 0))]) ρ (fun ad u2 ρ1 => u2 = none ∧ ((v1 = 0 → (∀ ad, K ad (some (.int (iR ρ1 (40, 0, 0) 13))) ρ1)) ∧ (v1 = 1 → (∀ ad, K ad (some (.int (iR ρ1 (40, 0, 0) 0))) ρ1)) ∧ (v1 = 2 → (∀ ad, K ad (some (.int (iR ρ1 (40, 0, 0) 3))) ρ1)) ∧ (v1 = 3 → (semV G r_Mo_isIn [] (fun ad => [.int v1, .int 3, .int 8]) ρ1 (fun ad u5 ρ4 => ∃ x7 : Int32, u5 = some (.int x7) ∧ ((x7 = 0 → (∀ ad, K ad (some (.int (-2))) ρ4)) ∧ (¬ x7 = 0 → (Y G [] ad0 M Q 108 (fun ad => [(0, .ref (ad (40, 0, 0))), (1, .int v1), (2, .int 0), (3, .int 0)]) (fun ad => []) ρ4)))))) ∧ (v1 = 4 → (semV G r_Mo_isIn [] (fun ad => [.int v1, .int 3, .int 8]) ρ1 (fun ad u11 ρ10 => ∃ x13 : Int32, u11 = some (.int x13) ∧ ((x13 = 0 → (∀ ad, K ad (some (.int (-2))) ρ10)) ∧ (¬ x13 = 0 → (Y G [] ad0 M Q 108 (fun ad => [(0, .ref (ad (40, 0, 0))), (1, .int v1), (2, .int 0), (3, .int 0)]) (fun ad => []) ρ10)))))) ∧ (v1 = 5 → (semV G r_Mo_isIn [] (fun ad => [.int v1, .int 3, .int 8]) ρ1 (fun ad u17 ρ16 => ∃ x19 : Int32, u17 = some (.int x19) ∧ ((x19 = 0 → (∀ ad, K ad (some (.int (-2))) ρ16)) ∧ (¬ x19 = 0 → (Y G [] ad0 M Q 108 (fun ad => [(0, .ref (ad (40, 0, 0))), (1, .int v1), (2, .int 0), (3, .int 0)]) (fun ad => []) ρ16)))))) ∧ (v1 = 6 → (semV G r_Mo_isIn [] (fun ad => [.int v1, .int 3, .int 8]) ρ1 (fun ad u23 ρ22 => ∃ x25 : Int32, u23 = some (.int x25) ∧ ((x25 = 0 → (∀ ad, K ad (some (.int (-2))) ρ22)) ∧ (¬ x25 = 0 → (Y G [] ad0 M Q 108 (fun ad => [(0, .ref (ad (40, 0, 0))), (1, .int v1), (2, .int 0), (3, .int 0)]) (fun ad => []) ρ22)))))) ∧ (v1 = 7 → (semV G r_Mo_isIn [] (fun ad => [.int v1, .int 3, .int 8]) ρ1 (fun ad u29 ρ28 => ∃ x31 : Int32, u29 = some (.int x31) ∧ ((x31 = 0 → (∀ ad, K ad (some (.int (-2))) ρ28)) ∧ (¬ x31 = 0 → (Y G [] ad0 M Q 108 (fun ad => [(0, .ref (ad (40, 0, 0))), (1, .int v1), (2, .int 0), (3, .int 0)]) (fun ad => []) ρ28)))))) ∧ (v1 = 8 → (semV G r_Mo_isIn [] (fun ad => [.int v1, .int 3, .int 8]) ρ1 (fun ad u35 ρ34 => ∃ x37 : Int32, u35 = some (.int x37) ∧ ((x37 = 0 → (∀ ad, K ad (some (.int (-2))) ρ34)) ∧ (¬ x37 = 0 → (Y G [] ad0 M Q 108 (fun ad => [(0, .ref (ad (40, 0, 0))), (1, .int v1), (2, .int 0), (3, .int 0)]) (fun ad => []) ρ34)))))) ∧ (v1 = 9 → (semV G r_Mo_partAll [] (fun ad => [.ref (ad (40, 0, 0))]) ρ1 (fun ad u41 ρ40 => u41 = none ∧ (∀ ad, K ad (some (.int (iR ρ40 (40, 0, 0) 32))) ρ40)))) ∧ (v1 = 10 → (∀ ad, K ad (some (.int (iR ρ1 (40, 0, 0) 9))) ρ1)) ∧ (¬ v1 = 0 → ¬ v1 = 1 → ¬ v1 = 2 → ¬ v1 = 3 → ¬ v1 = 4 → ¬ v1 = 5 → ¬ v1 = 6 → ¬ v1 = 7 → ¬ v1 = 8 → ¬ v1 = 9 → ¬ v1 = 10 → (semV G r_Mo_isIn [] (fun ad => [.int v1, .int 3, .int 8]) ρ1 (fun ad u45 ρ44 => ∃ x47 : Int32, u45 = some (.int x47) ∧ ((x47 = 0 → (∀ ad, K ad (some (.int (-2))) ρ44)) ∧ (¬ x47 = 0 → (Y G [] ad0 M Q 108 (fun ad => [(0, .ref (ad (40, 0, 0))), (1, .int v1), (2, .int 0), (3, .int 0)]) (fun ad => []) ρ44))))))))) : Y G [] ad0 M Q 0 (fun ad => [(0, .ref (ad (40, 0, 0))), (1, .int v1)]) (fun ad => []) ρ := by
  intro ad h hSt V
  show X G M Q 0 [(0, .ref (ad (40, 0, 0))), (1, .int v1)] [] h
  refine x_aload_n hM d_Mo_count_0 rfl 0 rfl ?_
  refine x_callV hG hM (r' := r_Mo_lay) (ci := 11) [] rfl rfl (Nat.le_of_ble_eq_true rfl) yk_Mo_lay ⟨Nat.le_of_ble_eq_true rfl, Nat.le_of_ble_eq_true rfl⟩ w_1112 w_1114 ws_Mo_lay rfl rfl (Nat.le_of_ble_eq_true rfl) d_Mo_count_1 (by rw [vT V rfl]; rfl) (sem_mono (F _ _ V) ?_)
  intro u2 h F
  obtain ⟨ad50, ρ1, V, hs3, F⟩ := F
  obtain ⟨rfl, F⟩ := F
  have hs3 := (St_eq hs3).symm
  subst hs3
  refine x_iconst (v := 0) hM d_Mo_count_4 (by decide) ?_
  refine x_istore_n (lv2 := [(2, .int 0), (0, .ref (ad (40, 0, 0))), (1, .int v1)]) hM d_Mo_count_5 rfl (Nat.le_of_ble_eq_true rfl) rfl ?_
  refine x_iload_n hM d_Mo_count_6 rfl 2 rfl ?_
  by_cases q7_0 : v1 = 0
  · replace F := F.1 q7_0
    refine x_tblIn (tgt := 64) hM d_Mo_count_7 (by rw [q7_0]; decide) (by rw [q7_0]; decide) (by rw [q7_0]; rfl) (by decide) ?_
    refine x_aload_n hM d_Mo_count_64 rfl 1 rfl ?_
    refine y_geti hG hM V ck_Mo 13 (Nat.le_of_ble_eq_true rfl) rfl rfl w_910 rfl d_Mo_count_65 (40, 0, 0) rfl rfl ?_
    exact x_ireturn hM d_Mo_count_68 rfl (y_end V hSt (F _))
  by_cases q7_1 : v1 = 1
  · replace F := F.2.1 q7_1
    refine x_tblIn (tgt := 69) hM d_Mo_count_7 (by rw [q7_1]; decide) (by rw [q7_1]; decide) (by rw [q7_1]; rfl) (by decide) ?_
    refine x_aload_n hM d_Mo_count_69 rfl 1 rfl ?_
    refine y_geti hG hM V ck_Mo 0 (Nat.le_of_ble_eq_true rfl) rfl rfl w_897 rfl d_Mo_count_70 (40, 0, 0) rfl rfl ?_
    exact x_ireturn hM d_Mo_count_73 rfl (y_end V hSt (F _))
  by_cases q7_2 : v1 = 2
  · replace F := F.2.2.1 q7_2
    refine x_tblIn (tgt := 74) hM d_Mo_count_7 (by rw [q7_2]; decide) (by rw [q7_2]; decide) (by rw [q7_2]; rfl) (by decide) ?_
    refine x_aload_n hM d_Mo_count_74 rfl 1 rfl ?_
    refine y_geti hG hM V ck_Mo 3 (Nat.le_of_ble_eq_true rfl) rfl rfl w_900 rfl d_Mo_count_75 (40, 0, 0) rfl rfl ?_
    exact x_ireturn hM d_Mo_count_78 rfl (y_end V hSt (F _))
  by_cases q7_3 : v1 = 3
  · replace F := F.2.2.2.1 q7_3
    refine x_tblIn (tgt := 93) hM d_Mo_count_7 (by rw [q7_3]; decide) (by rw [q7_3]; decide) (by rw [q7_3]; rfl) (by decide) ?_
    refine x_iload_n hM d_Mo_count_93 rfl 2 rfl ?_
    refine x_iconst (v := 3) hM d_Mo_count_94 (by decide) ?_
    refine x_bipush (v := 8) hM d_Mo_count_95 (by decide) ?_
    refine x_callS hG hM (r' := r_Mo_isIn) [.int v1, .int 3, .int 8] rfl yk_Mo_isIn ⟨Nat.le_of_ble_eq_true rfl, Nat.le_of_ble_eq_true rfl⟩ w_1017 w_1018 rfl rfl (Nat.le_of_ble_eq_true rfl) d_Mo_count_97 (sem_mono (F _ _ V) ?_)
    intro u5 h F
    obtain ⟨ad9, ρ4, V, hs6, F⟩ := F
    obtain ⟨x7, rfl, F⟩ := F
    have hs6 := (St_eq hs6).symm
    subst hs6
    refine x_if_ne (tgt := 106) hM d_Mo_count_100 (by decide) (fun q8 => ?_) (fun q8 => ?_)
    · replace F := F.2 q8
      refine x_iconst (v := 0) hM d_Mo_count_106 (by decide) ?_
      refine x_istore_n (lv2 := [(3, .int 0), (2, .int 0), (0, .ref (ad (40, 0, 0))), (1, .int v1)]) hM d_Mo_count_107 rfl (Nat.le_of_ble_eq_true rfl) rfl ?_
      refine x_sub [2, 3, 1, 0] rfl ?_
      exact F _ _ hSt V
    · replace F := F.1 q8
      refine x_bipush (v := (-2)) hM d_Mo_count_103 (by decide) ?_
      exact x_ireturn hM d_Mo_count_105 rfl (y_end V hSt (F _))
  by_cases q7_4 : v1 = 4
  · replace F := F.2.2.2.2.1 q7_4
    refine x_tblIn (tgt := 93) hM d_Mo_count_7 (by rw [q7_4]; decide) (by rw [q7_4]; decide) (by rw [q7_4]; rfl) (by decide) ?_
    refine x_iload_n hM d_Mo_count_93 rfl 2 rfl ?_
    refine x_iconst (v := 3) hM d_Mo_count_94 (by decide) ?_
    refine x_bipush (v := 8) hM d_Mo_count_95 (by decide) ?_
    refine x_callS hG hM (r' := r_Mo_isIn) [.int v1, .int 3, .int 8] rfl yk_Mo_isIn ⟨Nat.le_of_ble_eq_true rfl, Nat.le_of_ble_eq_true rfl⟩ w_1017 w_1018 rfl rfl (Nat.le_of_ble_eq_true rfl) d_Mo_count_97 (sem_mono (F _ _ V) ?_)
    intro u11 h F
    obtain ⟨ad15, ρ10, V, hs12, F⟩ := F
    obtain ⟨x13, rfl, F⟩ := F
    have hs12 := (St_eq hs12).symm
    subst hs12
    refine x_if_ne (tgt := 106) hM d_Mo_count_100 (by decide) (fun q14 => ?_) (fun q14 => ?_)
    · replace F := F.2 q14
      refine x_iconst (v := 0) hM d_Mo_count_106 (by decide) ?_
      refine x_istore_n (lv2 := [(3, .int 0), (2, .int 0), (0, .ref (ad (40, 0, 0))), (1, .int v1)]) hM d_Mo_count_107 rfl (Nat.le_of_ble_eq_true rfl) rfl ?_
      refine x_sub [2, 3, 1, 0] rfl ?_
      exact F _ _ hSt V
    · replace F := F.1 q14
      refine x_bipush (v := (-2)) hM d_Mo_count_103 (by decide) ?_
      exact x_ireturn hM d_Mo_count_105 rfl (y_end V hSt (F _))
  by_cases q7_5 : v1 = 5
  · replace F := F.2.2.2.2.2.1 q7_5
    refine x_tblIn (tgt := 93) hM d_Mo_count_7 (by rw [q7_5]; decide) (by rw [q7_5]; decide) (by rw [q7_5]; rfl) (by decide) ?_
    refine x_iload_n hM d_Mo_count_93 rfl 2 rfl ?_
    refine x_iconst (v := 3) hM d_Mo_count_94 (by decide) ?_
    refine x_bipush (v := 8) hM d_Mo_count_95 (by decide) ?_
    refine x_callS hG hM (r' := r_Mo_isIn) [.int v1, .int 3, .int 8] rfl yk_Mo_isIn ⟨Nat.le_of_ble_eq_true rfl, Nat.le_of_ble_eq_true rfl⟩ w_1017 w_1018 rfl rfl (Nat.le_of_ble_eq_true rfl) d_Mo_count_97 (sem_mono (F _ _ V) ?_)
    intro u17 h F
    obtain ⟨ad21, ρ16, V, hs18, F⟩ := F
    obtain ⟨x19, rfl, F⟩ := F
    have hs18 := (St_eq hs18).symm
    subst hs18
    refine x_if_ne (tgt := 106) hM d_Mo_count_100 (by decide) (fun q20 => ?_) (fun q20 => ?_)
    · replace F := F.2 q20
      refine x_iconst (v := 0) hM d_Mo_count_106 (by decide) ?_
      refine x_istore_n (lv2 := [(3, .int 0), (2, .int 0), (0, .ref (ad (40, 0, 0))), (1, .int v1)]) hM d_Mo_count_107 rfl (Nat.le_of_ble_eq_true rfl) rfl ?_
      refine x_sub [2, 3, 1, 0] rfl ?_
      exact F _ _ hSt V
    · replace F := F.1 q20
      refine x_bipush (v := (-2)) hM d_Mo_count_103 (by decide) ?_
      exact x_ireturn hM d_Mo_count_105 rfl (y_end V hSt (F _))
  by_cases q7_6 : v1 = 6
  · replace F := F.2.2.2.2.2.2.1 q7_6
    refine x_tblIn (tgt := 93) hM d_Mo_count_7 (by rw [q7_6]; decide) (by rw [q7_6]; decide) (by rw [q7_6]; rfl) (by decide) ?_
    refine x_iload_n hM d_Mo_count_93 rfl 2 rfl ?_
    refine x_iconst (v := 3) hM d_Mo_count_94 (by decide) ?_
    refine x_bipush (v := 8) hM d_Mo_count_95 (by decide) ?_
    refine x_callS hG hM (r' := r_Mo_isIn) [.int v1, .int 3, .int 8] rfl yk_Mo_isIn ⟨Nat.le_of_ble_eq_true rfl, Nat.le_of_ble_eq_true rfl⟩ w_1017 w_1018 rfl rfl (Nat.le_of_ble_eq_true rfl) d_Mo_count_97 (sem_mono (F _ _ V) ?_)
    intro u23 h F
    obtain ⟨ad27, ρ22, V, hs24, F⟩ := F
    obtain ⟨x25, rfl, F⟩ := F
    have hs24 := (St_eq hs24).symm
    subst hs24
    refine x_if_ne (tgt := 106) hM d_Mo_count_100 (by decide) (fun q26 => ?_) (fun q26 => ?_)
    · replace F := F.2 q26
      refine x_iconst (v := 0) hM d_Mo_count_106 (by decide) ?_
      refine x_istore_n (lv2 := [(3, .int 0), (2, .int 0), (0, .ref (ad (40, 0, 0))), (1, .int v1)]) hM d_Mo_count_107 rfl (Nat.le_of_ble_eq_true rfl) rfl ?_
      refine x_sub [2, 3, 1, 0] rfl ?_
      exact F _ _ hSt V
    · replace F := F.1 q26
      refine x_bipush (v := (-2)) hM d_Mo_count_103 (by decide) ?_
      exact x_ireturn hM d_Mo_count_105 rfl (y_end V hSt (F _))
  by_cases q7_7 : v1 = 7
  · replace F := F.2.2.2.2.2.2.2.1 q7_7
    refine x_tblIn (tgt := 93) hM d_Mo_count_7 (by rw [q7_7]; decide) (by rw [q7_7]; decide) (by rw [q7_7]; rfl) (by decide) ?_
    refine x_iload_n hM d_Mo_count_93 rfl 2 rfl ?_
    refine x_iconst (v := 3) hM d_Mo_count_94 (by decide) ?_
    refine x_bipush (v := 8) hM d_Mo_count_95 (by decide) ?_
    refine x_callS hG hM (r' := r_Mo_isIn) [.int v1, .int 3, .int 8] rfl yk_Mo_isIn ⟨Nat.le_of_ble_eq_true rfl, Nat.le_of_ble_eq_true rfl⟩ w_1017 w_1018 rfl rfl (Nat.le_of_ble_eq_true rfl) d_Mo_count_97 (sem_mono (F _ _ V) ?_)
    intro u29 h F
    obtain ⟨ad33, ρ28, V, hs30, F⟩ := F
    obtain ⟨x31, rfl, F⟩ := F
    have hs30 := (St_eq hs30).symm
    subst hs30
    refine x_if_ne (tgt := 106) hM d_Mo_count_100 (by decide) (fun q32 => ?_) (fun q32 => ?_)
    · replace F := F.2 q32
      refine x_iconst (v := 0) hM d_Mo_count_106 (by decide) ?_
      refine x_istore_n (lv2 := [(3, .int 0), (2, .int 0), (0, .ref (ad (40, 0, 0))), (1, .int v1)]) hM d_Mo_count_107 rfl (Nat.le_of_ble_eq_true rfl) rfl ?_
      refine x_sub [2, 3, 1, 0] rfl ?_
      exact F _ _ hSt V
    · replace F := F.1 q32
      refine x_bipush (v := (-2)) hM d_Mo_count_103 (by decide) ?_
      exact x_ireturn hM d_Mo_count_105 rfl (y_end V hSt (F _))
  by_cases q7_8 : v1 = 8
  · replace F := F.2.2.2.2.2.2.2.2.1 q7_8
    refine x_tblIn (tgt := 93) hM d_Mo_count_7 (by rw [q7_8]; decide) (by rw [q7_8]; decide) (by rw [q7_8]; rfl) (by decide) ?_
    refine x_iload_n hM d_Mo_count_93 rfl 2 rfl ?_
    refine x_iconst (v := 3) hM d_Mo_count_94 (by decide) ?_
    refine x_bipush (v := 8) hM d_Mo_count_95 (by decide) ?_
    refine x_callS hG hM (r' := r_Mo_isIn) [.int v1, .int 3, .int 8] rfl yk_Mo_isIn ⟨Nat.le_of_ble_eq_true rfl, Nat.le_of_ble_eq_true rfl⟩ w_1017 w_1018 rfl rfl (Nat.le_of_ble_eq_true rfl) d_Mo_count_97 (sem_mono (F _ _ V) ?_)
    intro u35 h F
    obtain ⟨ad39, ρ34, V, hs36, F⟩ := F
    obtain ⟨x37, rfl, F⟩ := F
    have hs36 := (St_eq hs36).symm
    subst hs36
    refine x_if_ne (tgt := 106) hM d_Mo_count_100 (by decide) (fun q38 => ?_) (fun q38 => ?_)
    · replace F := F.2 q38
      refine x_iconst (v := 0) hM d_Mo_count_106 (by decide) ?_
      refine x_istore_n (lv2 := [(3, .int 0), (2, .int 0), (0, .ref (ad (40, 0, 0))), (1, .int v1)]) hM d_Mo_count_107 rfl (Nat.le_of_ble_eq_true rfl) rfl ?_
      refine x_sub [2, 3, 1, 0] rfl ?_
      exact F _ _ hSt V
    · replace F := F.1 q38
      refine x_bipush (v := (-2)) hM d_Mo_count_103 (by decide) ?_
      exact x_ireturn hM d_Mo_count_105 rfl (y_end V hSt (F _))
  by_cases q7_9 : v1 = 9
  · replace F := F.2.2.2.2.2.2.2.2.2.1 q7_9
    refine x_tblIn (tgt := 79) hM d_Mo_count_7 (by rw [q7_9]; decide) (by rw [q7_9]; decide) (by rw [q7_9]; rfl) (by decide) ?_
    refine x_aload_n hM d_Mo_count_79 rfl 1 rfl ?_
    refine x_callV hG hM (r' := r_Mo_partAll) (ci := 11) [] rfl rfl (Nat.le_of_ble_eq_true rfl) yk_Mo_partAll ⟨Nat.le_of_ble_eq_true rfl, Nat.le_of_ble_eq_true rfl⟩ w_1140 w_1142 ws_Mo_partAll rfl rfl (Nat.le_of_ble_eq_true rfl) d_Mo_count_80 (by rw [vT V rfl]; rfl) (sem_mono (F _ _ V) ?_)
    intro u41 h F
    obtain ⟨ad43, ρ40, V, hs42, F⟩ := F
    obtain ⟨rfl, F⟩ := F
    have hs42 := (St_eq hs42).symm
    subst hs42
    refine x_aload_n hM d_Mo_count_83 rfl 1 rfl ?_
    refine y_geti hG hM V ck_Mo 32 (Nat.le_of_ble_eq_true rfl) rfl rfl w_929 rfl d_Mo_count_84 (40, 0, 0) rfl rfl ?_
    exact x_ireturn hM d_Mo_count_87 rfl (y_end V hSt (F _))
  by_cases q7_10 : v1 = 10
  · replace F := F.2.2.2.2.2.2.2.2.2.2.1 q7_10
    refine x_tblIn (tgt := 88) hM d_Mo_count_7 (by rw [q7_10]; decide) (by rw [q7_10]; decide) (by rw [q7_10]; rfl) (by decide) ?_
    refine x_aload_n hM d_Mo_count_88 rfl 1 rfl ?_
    refine y_geti hG hM V ck_Mo 9 (Nat.le_of_ble_eq_true rfl) rfl rfl w_906 rfl d_Mo_count_89 (40, 0, 0) rfl rfl ?_
    exact x_ireturn hM d_Mo_count_92 rfl (y_end V hSt (F _))
  replace F := F.2.2.2.2.2.2.2.2.2.2.2 q7_0 q7_1 q7_2 q7_3 q7_4 q7_5 q7_6 q7_7 q7_8 q7_9 q7_10
  refine x_tblOut (tgt := 93) hM d_Mo_count_7 (sw_out10 q7_0 q7_1 q7_2 q7_3 q7_4 q7_5 q7_6 q7_7 q7_8 q7_9 q7_10) (by decide) ?_
  refine x_iload_n hM d_Mo_count_93 rfl 2 rfl ?_
  refine x_iconst (v := 3) hM d_Mo_count_94 (by decide) ?_
  refine x_bipush (v := 8) hM d_Mo_count_95 (by decide) ?_
  refine x_callS hG hM (r' := r_Mo_isIn) [.int v1, .int 3, .int 8] rfl yk_Mo_isIn ⟨Nat.le_of_ble_eq_true rfl, Nat.le_of_ble_eq_true rfl⟩ w_1017 w_1018 rfl rfl (Nat.le_of_ble_eq_true rfl) d_Mo_count_97 (sem_mono (F _ _ V) ?_)
  intro u45 h F
  obtain ⟨ad49, ρ44, V, hs46, F⟩ := F
  obtain ⟨x47, rfl, F⟩ := F
  have hs46 := (St_eq hs46).symm
  subst hs46
  refine x_if_ne (tgt := 106) hM d_Mo_count_100 (by decide) (fun q48 => ?_) (fun q48 => ?_)
  · replace F := F.2 q48
    refine x_iconst (v := 0) hM d_Mo_count_106 (by decide) ?_
    refine x_istore_n (lv2 := [(3, .int 0), (2, .int 0), (0, .ref (ad (40, 0, 0))), (1, .int v1)]) hM d_Mo_count_107 rfl (Nat.le_of_ble_eq_true rfl) rfl ?_
    refine x_sub [2, 3, 1, 0] rfl ?_
    exact F _ _ hSt V
  · replace F := F.1 q48
    refine x_bipush (v := (-2)) hM d_Mo_count_103 (by decide) ?_
    exact x_ireturn hM d_Mo_count_105 rfl (y_end V hSt (F _))
set_option maxRecDepth 100000 in
set_option maxHeartbeats 4000000 in
theorem T_Mo_count_108 {G : Gc} {M : Mc} {Q : State → Prop} {ad0 : Ro → Nat} {K : (Ro → Nat) → Option Value → Rs → Prop} (hG : gok G) (hM : mok G M r_Mo_count Q (KV G [] ad0 K)) (v1 : Int32) (v2 : Int32) (v3 : Int32) (ρ : Rs) (F : ((iR ρ (40, 0, 0) 13) ≤ v3 → (∀ ad, K ad (some (.int v2)) ρ)) ∧ (¬ (iR ρ (40, 0, 0) 13) ≤ v3 → (((v1 = 3 → vp_in v3 4096) ∧ (¬ v1 = 3 → ((v1 = 4 → vp_in v3 4096) ∧ (¬ v1 = 4 → ((v1 = 5 → vp_in v3 4096) ∧ (¬ v1 = 5 → ((v1 = 6 → vp_in v3 4096) ∧ (¬ v1 = 6 → ((v1 = 7 → vp_in v3 4096) ∧ (¬ v1 = 7 → (vp_in v3 4096 ∧ (¬ (iR ρ (41, 19, 0) (Int32.toNatClampNeg v3)) = (-1) → vp_in v3 4096)))))))))))) ∧ (∀ z9 : Int32, z9 = (if v1 = 3 then (if (iR ρ (41, 19, 0) (Int32.toNatClampNeg v3)) = (-1) then 0 else 1) else (if v1 = 4 then (iR ρ (41, 15, 0) (Int32.toNatClampNeg v3)) else (if v1 = 5 then (if (iR ρ (41, 20, 0) (Int32.toNatClampNeg v3)) = (-1) then 0 else 1) else (if v1 = 6 then (if (iR ρ (41, 21, 0) (Int32.toNatClampNeg v3)) = (-1) then 0 else 1) else (if v1 = 7 then (if (iR ρ (41, 22, 0) (Int32.toNatClampNeg v3)) = (-1) then 0 else 1) else (if (iR ρ (41, 19, 0) (Int32.toNatClampNeg v3)) = (-1) then 0 else (if (iR ρ (41, 20, 0) (Int32.toNatClampNeg v3)) = (-1) then 1 else 0))))))) → (∀ z10 : Int32, z10 = (if z9 = 0 then 0 else 1) → (Y G [] ad0 M Q 108 (fun ad => [(0, .ref (ad (40, 0, 0))), (1, .int v1), (2, .int (v2 + z10)), (3, .int (v3 + 1))]) (fun ad => []) ρ)))))) : Y G [] ad0 M Q 108 (fun ad => [(0, .ref (ad (40, 0, 0))), (1, .int v1), (2, .int v2), (3, .int v3)]) (fun ad => []) ρ := by
  intro ad h hSt V
  show X G M Q 108 [(0, .ref (ad (40, 0, 0))), (1, .int v1), (2, .int v2), (3, .int v3)] [] h
  refine x_iload_n hM d_Mo_count_108 rfl 3 rfl ?_
  refine x_aload_n hM d_Mo_count_109 rfl 0 rfl ?_
  refine y_geti hG hM V ck_Mo 13 (Nat.le_of_ble_eq_true rfl) rfl rfl w_910 rfl d_Mo_count_110 (40, 0, 0) rfl rfl ?_
  refine x_icmp_ge (tgt := 270) hM d_Mo_count_113 (by decide) (fun q23 => ?_) (fun q23 => ?_)
  · replace F := F.1 q23
    refine x_iload_n hM d_Mo_count_270 rfl 2 rfl ?_
    exact x_ireturn hM d_Mo_count_271 rfl (y_end V hSt (F _))
  · replace F := F.2 q23
    refine x_iload_n hM d_Mo_count_116 rfl 1 rfl ?_
    refine x_iconst (v := 3) hM d_Mo_count_117 (by decide) ?_
    obtain ⟨S, F⟩ := F
    have JJ : ∀ (z9 : Int32) (ez9 : z9 = (if v1 = 3 then (if (iR ρ (41, 19, 0) (Int32.toNatClampNeg v3)) = (-1) then 0 else 1) else (if v1 = 4 then (iR ρ (41, 15, 0) (Int32.toNatClampNeg v3)) else (if v1 = 5 then (if (iR ρ (41, 20, 0) (Int32.toNatClampNeg v3)) = (-1) then 0 else 1) else (if v1 = 6 then (if (iR ρ (41, 21, 0) (Int32.toNatClampNeg v3)) = (-1) then 0 else 1) else (if v1 = 7 then (if (iR ρ (41, 22, 0) (Int32.toNatClampNeg v3)) = (-1) then 0 else 1) else (if (iR ρ (41, 19, 0) (Int32.toNatClampNeg v3)) = (-1) then 0 else (if (iR ρ (41, 20, 0) (Int32.toNatClampNeg v3)) = (-1) then 1 else 0)))))))), X G M Q 249 [(0, .ref (ad (40, 0, 0))), (1, .int v1), (2, .int v2), (3, .int v3)] [.int z9] h := by
      intro z9 ez9
      replace F := F _ ez9
      refine x_istore (lv2 := [(4, .int z9), (0, .ref (ad (40, 0, 0))), (1, .int v1), (2, .int v2), (3, .int v3)]) hM d_Mo_count_249 (Nat.le_of_ble_eq_true rfl) rfl ?_
      refine x_iload_n hM d_Mo_count_251 rfl 3 rfl ?_
      refine x_iload hM d_Mo_count_252 0 rfl ?_
      have JJ : ∀ (z10 : Int32) (ez10 : z10 = (if z9 = 0 then 0 else 1)), X G M Q 262 [(0, .ref (ad (40, 0, 0))), (1, .int v1), (3, .int v3)] [.int z10, .int v2] h := by
        intro z10 ez10
        replace F := F _ ez10
        refine x_iadd hM d_Mo_count_262 ?_
        refine x_istore_n (lv2 := [(2, .int (v2 + z10)), (0, .ref (ad (40, 0, 0))), (1, .int v1), (3, .int v3)]) hM d_Mo_count_263 rfl (Nat.le_of_ble_eq_true rfl) rfl ?_
        refine x_iinc (v := (v3 + 1)) (lv2 := [(3, .int (v3 + 1)), (2, .int (v2 + z10)), (0, .ref (ad (40, 0, 0))), (1, .int v1)]) hM d_Mo_count_264 (j := 3) rfl rfl (Nat.le_of_ble_eq_true rfl) rfl ?_
        refine x_goto (tgt := 108) hM d_Mo_count_267 (by decide) ?_
        refine x_sub [2, 3, 1, 0] rfl ?_
        exact F _ _ hSt V
      refine x_if_eq (tgt := 261) hM d_Mo_count_254 (by decide) (fun q11 => ?_) (fun q11 => ?_)
      · refine x_iconst (v := 0) hM d_Mo_count_261 (by decide) ?_
        refine x_sub [1, 2, 4] rfl ?_
        exact JJ _ (Eq.symm (if_pos q11))
      · refine x_iconst (v := 1) hM d_Mo_count_257 (by decide) ?_
        refine x_goto (tgt := 262) hM d_Mo_count_258 (by decide) ?_
        refine x_sub [1, 2, 4] rfl ?_
        exact JJ _ (Eq.symm (if_neg q11))
    refine x_icmp_ne (tgt := 139) hM d_Mo_count_118 (by decide) (fun q12 => ?_) (fun q12 => ?_)
    · replace S := S.2 q12
      refine x_iload_n hM d_Mo_count_139 rfl 1 rfl ?_
      refine x_iconst (v := 4) hM d_Mo_count_140 (by decide) ?_
      refine x_icmp_ne (tgt := 153) hM d_Mo_count_141 (by decide) (fun q13 => ?_) (fun q13 => ?_)
      · replace S := S.2 q13
        refine x_iload_n hM d_Mo_count_153 rfl 1 rfl ?_
        refine x_iconst (v := 5) hM d_Mo_count_154 (by decide) ?_
        refine x_icmp_ne (tgt := 176) hM d_Mo_count_155 (by decide) (fun q14 => ?_) (fun q14 => ?_)
        · replace S := S.2 q14
          refine x_iload_n hM d_Mo_count_176 rfl 1 rfl ?_
          refine x_bipush (v := 6) hM d_Mo_count_177 (by decide) ?_
          refine x_icmp_ne (tgt := 200) hM d_Mo_count_179 (by decide) (fun q15 => ?_) (fun q15 => ?_)
          · replace S := S.2 q15
            refine x_iload_n hM d_Mo_count_200 rfl 1 rfl ?_
            refine x_bipush (v := 7) hM d_Mo_count_201 (by decide) ?_
            refine x_icmp_ne (tgt := 224) hM d_Mo_count_203 (by decide) (fun q16 => ?_) (fun q16 => ?_)
            · replace S := S.2 q16
              refine x_aload_n hM d_Mo_count_224 rfl 0 rfl ?_
              refine y_getr hG hM V ck_Mo 19 (Nat.le_of_ble_eq_true rfl) rfl rfl w_916 rfl d_Mo_count_225 (40, 0, 0) (41, 19, 0) rfl rfl rfl ?_
              refine x_iload_n hM d_Mo_count_228 rfl 3 rfl ?_
              obtain ⟨c2, S⟩ := S
              refine y_iaload hG hM V d_Mo_count_229 (41, 19, 0) rfl rfl (by rw [vlen V (r := (41, 19, 0)) rfl rfl]; exact c2) ?_
              refine x_iconst (v := (-1)) hM d_Mo_count_230 (by decide) ?_
              refine x_icmp_eq (tgt := 248) hM d_Mo_count_231 (by decide) (fun q17 => ?_) (fun q17 => ?_)
              · refine x_iconst (v := 0) hM d_Mo_count_248 (by decide) ?_
                exact JJ _ (Eq.symm (Eq.trans (if_neg q12) (Eq.trans (if_neg q13) (Eq.trans (if_neg q14) (Eq.trans (if_neg q15) (Eq.trans (if_neg q16) (if_pos q17)))))))
              · replace S := S q17
                refine x_aload_n hM d_Mo_count_234 rfl 0 rfl ?_
                refine y_getr hG hM V ck_Mo 20 (Nat.le_of_ble_eq_true rfl) rfl rfl w_917 rfl d_Mo_count_235 (40, 0, 0) (41, 20, 0) rfl rfl rfl ?_
                refine x_iload_n hM d_Mo_count_238 rfl 3 rfl ?_
                have c3 := S
                refine y_iaload hG hM V d_Mo_count_239 (41, 20, 0) rfl rfl (by rw [vlen V (r := (41, 20, 0)) rfl rfl]; exact c3) ?_
                refine x_iconst (v := (-1)) hM d_Mo_count_240 (by decide) ?_
                refine x_icmp_ne (tgt := 248) hM d_Mo_count_241 (by decide) (fun q18 => ?_) (fun q18 => ?_)
                · refine x_iconst (v := 0) hM d_Mo_count_248 (by decide) ?_
                  exact JJ _ (Eq.symm (Eq.trans (if_neg q12) (Eq.trans (if_neg q13) (Eq.trans (if_neg q14) (Eq.trans (if_neg q15) (Eq.trans (if_neg q16) (Eq.trans (if_neg q17) (if_neg q18))))))))
                · refine x_iconst (v := 1) hM d_Mo_count_244 (by decide) ?_
                  refine x_goto (tgt := 249) hM d_Mo_count_245 (by decide) ?_
                  exact JJ _ (Eq.symm (Eq.trans (if_neg q12) (Eq.trans (if_neg q13) (Eq.trans (if_neg q14) (Eq.trans (if_neg q15) (Eq.trans (if_neg q16) (Eq.trans (if_neg q17) (if_pos q18))))))))
            · replace S := S.1 q16
              refine x_aload_n hM d_Mo_count_206 rfl 0 rfl ?_
              refine y_getr hG hM V ck_Mo 22 (Nat.le_of_ble_eq_true rfl) rfl rfl w_919 rfl d_Mo_count_207 (40, 0, 0) (41, 22, 0) rfl rfl rfl ?_
              refine x_iload_n hM d_Mo_count_210 rfl 3 rfl ?_
              have c4 := S
              refine y_iaload hG hM V d_Mo_count_211 (41, 22, 0) rfl rfl (by rw [vlen V (r := (41, 22, 0)) rfl rfl]; exact c4) ?_
              refine x_iconst (v := (-1)) hM d_Mo_count_212 (by decide) ?_
              refine x_icmp_eq (tgt := 220) hM d_Mo_count_213 (by decide) (fun q19 => ?_) (fun q19 => ?_)
              · refine x_iconst (v := 0) hM d_Mo_count_220 (by decide) ?_
                refine x_goto (tgt := 249) hM d_Mo_count_221 (by decide) ?_
                exact JJ _ (Eq.symm (Eq.trans (if_neg q12) (Eq.trans (if_neg q13) (Eq.trans (if_neg q14) (Eq.trans (if_neg q15) (Eq.trans (if_pos q16) (if_pos q19)))))))
              · refine x_iconst (v := 1) hM d_Mo_count_216 (by decide) ?_
                refine x_goto (tgt := 249) hM d_Mo_count_217 (by decide) ?_
                exact JJ _ (Eq.symm (Eq.trans (if_neg q12) (Eq.trans (if_neg q13) (Eq.trans (if_neg q14) (Eq.trans (if_neg q15) (Eq.trans (if_pos q16) (if_neg q19)))))))
          · replace S := S.1 q15
            refine x_aload_n hM d_Mo_count_182 rfl 0 rfl ?_
            refine y_getr hG hM V ck_Mo 21 (Nat.le_of_ble_eq_true rfl) rfl rfl w_918 rfl d_Mo_count_183 (40, 0, 0) (41, 21, 0) rfl rfl rfl ?_
            refine x_iload_n hM d_Mo_count_186 rfl 3 rfl ?_
            have c5 := S
            refine y_iaload hG hM V d_Mo_count_187 (41, 21, 0) rfl rfl (by rw [vlen V (r := (41, 21, 0)) rfl rfl]; exact c5) ?_
            refine x_iconst (v := (-1)) hM d_Mo_count_188 (by decide) ?_
            refine x_icmp_eq (tgt := 196) hM d_Mo_count_189 (by decide) (fun q20 => ?_) (fun q20 => ?_)
            · refine x_iconst (v := 0) hM d_Mo_count_196 (by decide) ?_
              refine x_goto (tgt := 249) hM d_Mo_count_197 (by decide) ?_
              exact JJ _ (Eq.symm (Eq.trans (if_neg q12) (Eq.trans (if_neg q13) (Eq.trans (if_neg q14) (Eq.trans (if_pos q15) (if_pos q20))))))
            · refine x_iconst (v := 1) hM d_Mo_count_192 (by decide) ?_
              refine x_goto (tgt := 249) hM d_Mo_count_193 (by decide) ?_
              exact JJ _ (Eq.symm (Eq.trans (if_neg q12) (Eq.trans (if_neg q13) (Eq.trans (if_neg q14) (Eq.trans (if_pos q15) (if_neg q20))))))
        · replace S := S.1 q14
          refine x_aload_n hM d_Mo_count_158 rfl 0 rfl ?_
          refine y_getr hG hM V ck_Mo 20 (Nat.le_of_ble_eq_true rfl) rfl rfl w_917 rfl d_Mo_count_159 (40, 0, 0) (41, 20, 0) rfl rfl rfl ?_
          refine x_iload_n hM d_Mo_count_162 rfl 3 rfl ?_
          have c6 := S
          refine y_iaload hG hM V d_Mo_count_163 (41, 20, 0) rfl rfl (by rw [vlen V (r := (41, 20, 0)) rfl rfl]; exact c6) ?_
          refine x_iconst (v := (-1)) hM d_Mo_count_164 (by decide) ?_
          refine x_icmp_eq (tgt := 172) hM d_Mo_count_165 (by decide) (fun q21 => ?_) (fun q21 => ?_)
          · refine x_iconst (v := 0) hM d_Mo_count_172 (by decide) ?_
            refine x_goto (tgt := 249) hM d_Mo_count_173 (by decide) ?_
            exact JJ _ (Eq.symm (Eq.trans (if_neg q12) (Eq.trans (if_neg q13) (Eq.trans (if_pos q14) (if_pos q21)))))
          · refine x_iconst (v := 1) hM d_Mo_count_168 (by decide) ?_
            refine x_goto (tgt := 249) hM d_Mo_count_169 (by decide) ?_
            exact JJ _ (Eq.symm (Eq.trans (if_neg q12) (Eq.trans (if_neg q13) (Eq.trans (if_pos q14) (if_neg q21)))))
      · replace S := S.1 q13
        refine x_aload_n hM d_Mo_count_144 rfl 0 rfl ?_
        refine y_getr hG hM V ck_Mo 15 (Nat.le_of_ble_eq_true rfl) rfl rfl w_912 rfl d_Mo_count_145 (40, 0, 0) (41, 15, 0) rfl rfl rfl ?_
        refine x_iload_n hM d_Mo_count_148 rfl 3 rfl ?_
        have c7 := S
        refine y_zaload hG hM V d_Mo_count_149 (41, 15, 0) rfl rfl (by rw [vlen V (r := (41, 15, 0)) rfl rfl]; exact c7) ?_
        refine x_goto (tgt := 249) hM d_Mo_count_150 (by decide) ?_
        exact JJ _ (Eq.symm (Eq.trans (if_neg q12) (if_pos q13)))
    · replace S := S.1 q12
      refine x_aload_n hM d_Mo_count_121 rfl 0 rfl ?_
      refine y_getr hG hM V ck_Mo 19 (Nat.le_of_ble_eq_true rfl) rfl rfl w_916 rfl d_Mo_count_122 (40, 0, 0) (41, 19, 0) rfl rfl rfl ?_
      refine x_iload_n hM d_Mo_count_125 rfl 3 rfl ?_
      have c8 := S
      refine y_iaload hG hM V d_Mo_count_126 (41, 19, 0) rfl rfl (by rw [vlen V (r := (41, 19, 0)) rfl rfl]; exact c8) ?_
      refine x_iconst (v := (-1)) hM d_Mo_count_127 (by decide) ?_
      refine x_icmp_eq (tgt := 135) hM d_Mo_count_128 (by decide) (fun q22 => ?_) (fun q22 => ?_)
      · refine x_iconst (v := 0) hM d_Mo_count_135 (by decide) ?_
        refine x_goto (tgt := 249) hM d_Mo_count_136 (by decide) ?_
        exact JJ _ (Eq.symm (Eq.trans (if_pos q12) (if_pos q22)))
      · refine x_iconst (v := 1) hM d_Mo_count_131 (by decide) ?_
        refine x_goto (tgt := 249) hM d_Mo_count_132 (by decide) ?_
        exact JJ _ (Eq.symm (Eq.trans (if_pos q12) (if_neg q22)))
