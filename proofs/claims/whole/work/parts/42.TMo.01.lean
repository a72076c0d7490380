set_option maxRecDepth 100000 in
set_option maxHeartbeats 4000000 in
theorem T_Mo_effect_0 {G : Gc} {M : Mc} {Q : State → Prop} {ad0 : Ro → Nat} {K : (Ro → Nat) → Option Value → Rs → Prop} (hG : gok G) (hM : mok G M r_Mo_effect Q (KV G [] ad0 K)) (v1 : Int32) (v2 : Int32) (v3 : Int32) (v4 : Int32) (v5 : Int32) (ρ : Rs) (F : semV G r_Mo_isAct [] (fun ad => [.ref (ad (40, 0, 0)), .int v1]) ρ (fun ad u2 ρ1 => ∃ x4 : Int32, u2 = some (.int x4) ∧ ((x4 = 0 → (∀ ad, K ad (some (.int (-2))) ρ1)) ∧ (¬ x4 = 0 → (vp_in v1 12 ∧ (semV G r_Mo_isIn [] (fun ad => [.int v2, .int 0, .int ((iR ρ1 (41, 4, 0) (Int32.toNatClampNeg v1)) - 1)]) ρ1 (fun ad u7 ρ6 => ∃ x9 : Int32, u7 = some (.int x9) ∧ ((x9 = 0 → (∀ ad, K ad (some (.int (-2))) ρ6)) ∧ (¬ x9 = 0 → (semV G r_Mo_isThing [] (fun ad => [.ref (ad (40, 0, 0)), .int v3]) ρ6 (fun ad u11 ρ10 => ∃ x13 : Int32, u11 = some (.int x13) ∧ ((x13 = 0 → (∀ ad, K ad (some (.int (-2))) ρ10)) ∧ (¬ x13 = 0 → (semV G r_Mo_isIn [] (fun ad => [.int v4, .int 0, .int 2]) ρ10 (fun ad u15 ρ14 => ∃ x17 : Int32, u15 = some (.int x17) ∧ ((x17 = 0 → (∀ ad, K ad (some (.int (-2))) ρ14)) ∧ (¬ x17 = 0 → ((v4 = 0 → (vp_in v3 8 ∧ (semV G r_Mo_isIn [] (fun ad => [.int v5, .int 0, .int ((iR ρ14 (41, 1, 0) (Int32.toNatClampNeg v3)) - 1)]) ρ14 (fun ad u67 ρ66 => ∃ x69 : Int32, u67 = some (.int x69) ∧ ((x69 = 0 → (∀ ad, K ad (some (.int (-2))) ρ66)) ∧ (¬ x69 = 0 → (vp_in ((3 * v1) + v2) 36 ∧ (((iR ρ66 (41, 7, 0) (Int32.toNatClampNeg ((3 * v1) + v2))) = 4 → (∀ ad, K ad (some (.int (-3))) ρ66)) ∧ (¬ (iR ρ66 (41, 7, 0) (Int32.toNatClampNeg ((3 * v1) + v2))) = 4 → (vp_in ((3 * v1) + v2) 36 ∧ (vp_in ((12 * ((3 * v1) + v2)) + (3 * (iR ρ66 (41, 7, 0) (Int32.toNatClampNeg ((3 * v1) + v2))))) 432 ∧ (∀ ρ72 : Rs, ρ72 = pI ρ66 (41, 8, 0) (Int32.toNatClampNeg ((12 * ((3 * v1) + v2)) + (3 * (iR ρ66 (41, 7, 0) (Int32.toNatClampNeg ((3 * v1) + v2)))))) v3 → (vp_in (((12 * ((3 * v1) + v2)) + (3 * (iR ρ66 (41, 7, 0) (Int32.toNatClampNeg ((3 * v1) + v2))))) + 1) 432 ∧ (∀ ρ73 : Rs, ρ73 = pI ρ72 (41, 8, 0) (Int32.toNatClampNeg (((12 * ((3 * v1) + v2)) + (3 * (iR ρ66 (41, 7, 0) (Int32.toNatClampNeg ((3 * v1) + v2))))) + 1)) v4 → (vp_in (((12 * ((3 * v1) + v2)) + (3 * (iR ρ66 (41, 7, 0) (Int32.toNatClampNeg ((3 * v1) + v2))))) + 2) 432 ∧ (∀ ρ74 : Rs, ρ74 = pI ρ73 (41, 8, 0) (Int32.toNatClampNeg (((12 * ((3 * v1) + v2)) + (3 * (iR ρ66 (41, 7, 0) (Int32.toNatClampNeg ((3 * v1) + v2))))) + 2)) v5 → (vp_in ((3 * v1) + v2) 36 ∧ (vp_in ((3 * v1) + v2) 36 ∧ (∀ ρ76 : Rs, ρ76 = pI ρ74 (41, 7, 0) (Int32.toNatClampNeg ((3 * v1) + v2)) ((iR ρ74 (41, 7, 0) (Int32.toNatClampNeg ((3 * v1) + v2))) + 1) → (semV G r_Mo_forget [] (fun ad => [.ref (ad (40, 0, 0))]) ρ76 (fun ad u78 ρ77 => u78 = none ∧ (vp_in ((3 * v1) + v2) 36 ∧ (∀ ad, K ad (some (.int (iR ρ77 (41, 7, 0) (Int32.toNatClampNeg ((3 * v1) + v2))))) ρ77))))))))))))))))))))))) ∧ (¬ v4 = 0 → ((v4 = 1 → (semV G r_Mo_isThing [] (fun ad => [.ref (ad (40, 0, 0)), .int v5]) ρ14 (fun ad u42 ρ41 => ∃ x44 : Int32, u42 = some (.int x44) ∧ ((x44 = 0 → (∀ ad, K ad (some (.int (-2))) ρ41)) ∧ (¬ x44 = 0 → (vp_in ((3 * v1) + v2) 36 ∧ (((iR ρ41 (41, 7, 0) (Int32.toNatClampNeg ((3 * v1) + v2))) = 4 → (∀ ad, K ad (some (.int (-3))) ρ41)) ∧ (¬ (iR ρ41 (41, 7, 0) (Int32.toNatClampNeg ((3 * v1) + v2))) = 4 → (vp_in ((3 * v1) + v2) 36 ∧ (vp_in ((12 * ((3 * v1) + v2)) + (3 * (iR ρ41 (41, 7, 0) (Int32.toNatClampNeg ((3 * v1) + v2))))) 432 ∧ (∀ ρ47 : Rs, ρ47 = pI ρ41 (41, 8, 0) (Int32.toNatClampNeg ((12 * ((3 * v1) + v2)) + (3 * (iR ρ41 (41, 7, 0) (Int32.toNatClampNeg ((3 * v1) + v2)))))) v3 → (vp_in (((12 * ((3 * v1) + v2)) + (3 * (iR ρ41 (41, 7, 0) (Int32.toNatClampNeg ((3 * v1) + v2))))) + 1) 432 ∧ (∀ ρ48 : Rs, ρ48 = pI ρ47 (41, 8, 0) (Int32.toNatClampNeg (((12 * ((3 * v1) + v2)) + (3 * (iR ρ41 (41, 7, 0) (Int32.toNatClampNeg ((3 * v1) + v2))))) + 1)) v4 → (vp_in (((12 * ((3 * v1) + v2)) + (3 * (iR ρ41 (41, 7, 0) (Int32.toNatClampNeg ((3 * v1) + v2))))) + 2) 432 ∧ (∀ ρ49 : Rs, ρ49 = pI ρ48 (41, 8, 0) (Int32.toNatClampNeg (((12 * ((3 * v1) + v2)) + (3 * (iR ρ41 (41, 7, 0) (Int32.toNatClampNeg ((3 * v1) + v2))))) + 2)) v5 → (vp_in ((3 * v1) + v2) 36 ∧ (vp_in ((3 * v1) + v2) 36 ∧ (∀ ρ51 : Rs, ρ51 = pI ρ49 (41, 7, 0) (Int32.toNatClampNeg ((3 * v1) + v2)) ((iR ρ49 (41, 7, 0) (Int32.toNatClampNeg ((3 * v1) + v2))) + 1) → (semV G r_Mo_forget [] (fun ad => [.ref (ad (40, 0, 0))]) ρ51 (fun ad u53 ρ52 => u53 = none ∧ (vp_in ((3 * v1) + v2) 36 ∧ (∀ ad, K ad (some (.int (iR ρ52 (41, 7, 0) (Int32.toNatClampNeg ((3 * v1) + v2))))) ρ52)))))))))))))))))))))) ∧ (¬ v4 = 1 → (semV G r_Mo_isIn [] (fun ad => [.int v5, .int 0, .int 3]) ρ14 (fun ad u19 ρ18 => ∃ x21 : Int32, u19 = some (.int x21) ∧ ((x21 = 0 → (∀ ad, K ad (some (.int (-2))) ρ18)) ∧ (¬ x21 = 0 → (vp_in ((3 * v1) + v2) 36 ∧ (((iR ρ18 (41, 7, 0) (Int32.toNatClampNeg ((3 * v1) + v2))) = 4 → (∀ ad, K ad (some (.int (-3))) ρ18)) ∧ (¬ (iR ρ18 (41, 7, 0) (Int32.toNatClampNeg ((3 * v1) + v2))) = 4 → (vp_in ((3 * v1) + v2) 36 ∧ (vp_in ((12 * ((3 * v1) + v2)) + (3 * (iR ρ18 (41, 7, 0) (Int32.toNatClampNeg ((3 * v1) + v2))))) 432 ∧ (∀ ρ24 : Rs, ρ24 = pI ρ18 (41, 8, 0) (Int32.toNatClampNeg ((12 * ((3 * v1) + v2)) + (3 * (iR ρ18 (41, 7, 0) (Int32.toNatClampNeg ((3 * v1) + v2)))))) v3 → (vp_in (((12 * ((3 * v1) + v2)) + (3 * (iR ρ18 (41, 7, 0) (Int32.toNatClampNeg ((3 * v1) + v2))))) + 1) 432 ∧ (∀ ρ25 : Rs, ρ25 = pI ρ24 (41, 8, 0) (Int32.toNatClampNeg (((12 * ((3 * v1) + v2)) + (3 * (iR ρ18 (41, 7, 0) (Int32.toNatClampNeg ((3 * v1) + v2))))) + 1)) v4 → (vp_in (((12 * ((3 * v1) + v2)) + (3 * (iR ρ18 (41, 7, 0) (Int32.toNatClampNeg ((3 * v1) + v2))))) + 2) 432 ∧ (∀ ρ26 : Rs, ρ26 = pI ρ25 (41, 8, 0) (Int32.toNatClampNeg (((12 * ((3 * v1) + v2)) + (3 * (iR ρ18 (41, 7, 0) (Int32.toNatClampNeg ((3 * v1) + v2))))) + 2)) v5 → (vp_in ((3 * v1) + v2) 36 ∧ (vp_in ((3 * v1) + v2) 36 ∧ (∀ ρ28 : Rs, ρ28 = pI ρ26 (41, 7, 0) (Int32.toNatClampNeg ((3 * v1) + v2)) ((iR ρ26 (41, 7, 0) (Int32.toNatClampNeg ((3 * v1) + v2))) + 1) → (semV G r_Mo_forget [] (fun ad => [.ref (ad (40, 0, 0))]) ρ28 (fun ad u30 ρ29 => u30 = none ∧ (vp_in ((3 * v1) + v2) 36 ∧ (∀ ad, K ad (some (.int (iR ρ29 (41, 7, 0) (Int32.toNatClampNeg ((3 * v1) + v2))))) ρ29)))))))))))))))))))))))))))))))))))))))))) : Y G [] ad0 M Q 0 (fun ad => [(0, .ref (ad (40, 0, 0))), (1, .int v1), (2, .int v2), (3, .int v3), (4, .int v4), (5, .int v5)]) (fun ad => []) ρ := by
  intro ad h hSt V
  show X G M Q 0 [(0, .ref (ad (40, 0, 0))), (1, .int v1), (2, .int v2), (3, .int v3), (4, .int v4), (5, .int v5)] [] h
  refine x_aload_n hM d_Mo_effect_0 rfl 0 rfl ?_
  refine x_iload_n hM d_Mo_effect_1 rfl 1 rfl ?_
  refine x_callV hG hM (r' := r_Mo_isAct) (ci := 11) [.int v1] rfl rfl (Nat.le_of_ble_eq_true rfl) yk_Mo_isAct ⟨Nat.le_of_ble_eq_true rfl, Nat.le_of_ble_eq_true rfl⟩ w_1040 w_1042 ws_Mo_isAct rfl rfl (Nat.le_of_ble_eq_true rfl) d_Mo_effect_2 (by rw [vT V rfl]; rfl) (sem_mono (F _ _ V) ?_)
  intro u2 h F
  obtain ⟨ad97, ρ1, V, hs3, F⟩ := F
  obtain ⟨x4, rfl, F⟩ := F
  have hs3 := (St_eq hs3).symm
  subst hs3
  refine x_if_eq (tgt := 95) hM d_Mo_effect_5 (by decide) (fun q96 => ?_) (fun q96 => ?_)
  · replace F := F.1 q96
    refine x_bipush (v := (-2)) hM d_Mo_effect_95 (by decide) ?_
    exact x_ireturn hM d_Mo_effect_97 rfl (y_end V hSt (F _))
  · replace F := F.2 q96
    refine x_iload_n hM d_Mo_effect_8 rfl 2 rfl ?_
    refine x_iconst (v := 0) hM d_Mo_effect_9 (by decide) ?_
    refine x_aload_n hM d_Mo_effect_10 rfl 0 rfl ?_
    refine y_getr hG hM V ck_Mo 4 (Nat.le_of_ble_eq_true rfl) rfl rfl w_901 rfl d_Mo_effect_11 (40, 0, 0) (41, 4, 0) rfl rfl rfl ?_
    refine x_iload_n hM d_Mo_effect_14 rfl 1 rfl ?_
    obtain ⟨c5, F⟩ := F
    refine y_iaload hG hM V d_Mo_effect_15 (41, 4, 0) rfl rfl (by rw [vlen V (r := (41, 4, 0)) rfl rfl]; exact c5) ?_
    refine x_iconst (v := 1) hM d_Mo_effect_16 (by decide) ?_
    refine x_isub hM d_Mo_effect_17 ?_
    refine x_callS hG hM (r' := r_Mo_isIn) [.int v2, .int 0, .int ((iR ρ1 (41, 4, 0) (Int32.toNatClampNeg v1)) - 1)] rfl yk_Mo_isIn ⟨Nat.le_of_ble_eq_true rfl, Nat.le_of_ble_eq_true rfl⟩ w_1017 w_1018 rfl rfl (Nat.le_of_ble_eq_true rfl) d_Mo_effect_18 (sem_mono (F _ _ V) ?_)
    intro u7 h F
    obtain ⟨ad95, ρ6, V, hs8, F⟩ := F
    obtain ⟨x9, rfl, F⟩ := F
    have hs8 := (St_eq hs8).symm
    subst hs8
    refine x_if_eq (tgt := 95) hM d_Mo_effect_21 (by decide) (fun q94 => ?_) (fun q94 => ?_)
    · replace F := F.1 q94
      refine x_bipush (v := (-2)) hM d_Mo_effect_95 (by decide) ?_
      exact x_ireturn hM d_Mo_effect_97 rfl (y_end V hSt (F _))
    · replace F := F.2 q94
      refine x_aload_n hM d_Mo_effect_24 rfl 0 rfl ?_
      refine x_iload_n hM d_Mo_effect_25 rfl 3 rfl ?_
      refine x_callV hG hM (r' := r_Mo_isThing) (ci := 11) [.int v3] rfl rfl (Nat.le_of_ble_eq_true rfl) yk_Mo_isThing ⟨Nat.le_of_ble_eq_true rfl, Nat.le_of_ble_eq_true rfl⟩ w_1052 w_1054 ws_Mo_isThing rfl rfl (Nat.le_of_ble_eq_true rfl) d_Mo_effect_26 (by rw [vT V rfl]; rfl) (sem_mono (F _ _ V) ?_)
      intro u11 h F
      obtain ⟨ad93, ρ10, V, hs12, F⟩ := F
      obtain ⟨x13, rfl, F⟩ := F
      have hs12 := (St_eq hs12).symm
      subst hs12
      refine x_if_eq (tgt := 95) hM d_Mo_effect_29 (by decide) (fun q92 => ?_) (fun q92 => ?_)
      · replace F := F.1 q92
        refine x_bipush (v := (-2)) hM d_Mo_effect_95 (by decide) ?_
        exact x_ireturn hM d_Mo_effect_97 rfl (y_end V hSt (F _))
      · replace F := F.2 q92
        refine x_iload hM d_Mo_effect_32 4 rfl ?_
        refine x_iconst (v := 0) hM d_Mo_effect_34 (by decide) ?_
        refine x_iconst (v := 2) hM d_Mo_effect_35 (by decide) ?_
        refine x_callS hG hM (r' := r_Mo_isIn) [.int v4, .int 0, .int 2] rfl yk_Mo_isIn ⟨Nat.le_of_ble_eq_true rfl, Nat.le_of_ble_eq_true rfl⟩ w_1017 w_1018 rfl rfl (Nat.le_of_ble_eq_true rfl) d_Mo_effect_36 (sem_mono (F _ _ V) ?_)
        intro u15 h F
        obtain ⟨ad91, ρ14, V, hs16, F⟩ := F
        obtain ⟨x17, rfl, F⟩ := F
        have hs16 := (St_eq hs16).symm
        subst hs16
        refine x_if_eq (tgt := 95) hM d_Mo_effect_39 (by decide) (fun q90 => ?_) (fun q90 => ?_)
        · replace F := F.1 q90
          refine x_bipush (v := (-2)) hM d_Mo_effect_95 (by decide) ?_
          exact x_ireturn hM d_Mo_effect_97 rfl (y_end V hSt (F _))
        · replace F := F.2 q90
          refine x_iload hM d_Mo_effect_42 4 rfl ?_
          refine x_if_ne (tgt := 67) hM d_Mo_effect_44 (by decide) (fun q89 => ?_) (fun q89 => ?_)
          · replace F := F.2 q89
            refine x_iload hM d_Mo_effect_67 4 rfl ?_
            refine x_iconst (v := 1) hM d_Mo_effect_69 (by decide) ?_
            refine x_icmp_ne (tgt := 85) hM d_Mo_effect_70 (by decide) (fun q64 => ?_) (fun q64 => ?_)
            · replace F := F.2 q64
              refine x_iload hM d_Mo_effect_85 5 rfl ?_
              refine x_iconst (v := 0) hM d_Mo_effect_87 (by decide) ?_
              refine x_iconst (v := 3) hM d_Mo_effect_88 (by decide) ?_
              refine x_callS hG hM (r' := r_Mo_isIn) [.int v5, .int 0, .int 3] rfl yk_Mo_isIn ⟨Nat.le_of_ble_eq_true rfl, Nat.le_of_ble_eq_true rfl⟩ w_1017 w_1018 rfl rfl (Nat.le_of_ble_eq_true rfl) d_Mo_effect_89 (sem_mono (F _ _ V) ?_)
              intro u19 h F
              obtain ⟨ad40, ρ18, V, hs20, F⟩ := F
              obtain ⟨x21, rfl, F⟩ := F
              have hs20 := (St_eq hs20).symm
              subst hs20
              refine x_if_ne (tgt := 98) hM d_Mo_effect_92 (by decide) (fun q39 => ?_) (fun q39 => ?_)
              · replace F := F.2 q39
                refine x_iconst (v := 3) hM d_Mo_effect_98 (by decide) ?_
                refine x_iload_n hM d_Mo_effect_99 rfl 1 rfl ?_
                refine x_imul hM d_Mo_effect_100 ?_
                refine x_iload_n hM d_Mo_effect_101 rfl 2 rfl ?_
                refine x_iadd hM d_Mo_effect_102 ?_
                refine x_istore (lv2 := [(6, .int ((3 * v1) + v2)), (0, .ref (ad (40, 0, 0))), (1, .int v1), (2, .int v2), (3, .int v3), (4, .int v4), (5, .int v5)]) hM d_Mo_effect_103 (Nat.le_of_ble_eq_true rfl) rfl ?_
                refine x_aload_n hM d_Mo_effect_105 rfl 1 rfl ?_
                refine y_getr hG hM V ck_Mo 7 (Nat.le_of_ble_eq_true rfl) rfl rfl w_904 rfl d_Mo_effect_106 (40, 0, 0) (41, 7, 0) rfl rfl rfl ?_
                refine x_iload hM d_Mo_effect_109 0 rfl ?_
                obtain ⟨c22, F⟩ := F
                refine y_iaload hG hM V d_Mo_effect_111 (41, 7, 0) rfl rfl (by rw [vlen V (r := (41, 7, 0)) rfl rfl]; exact c22) ?_
                refine x_iconst (v := 4) hM d_Mo_effect_112 (by decide) ?_
                refine x_icmp_ne (tgt := 119) hM d_Mo_effect_113 (by decide) (fun q38 => ?_) (fun q38 => ?_)
                · replace F := F.2 q38
                  refine x_bipush (v := 12) hM d_Mo_effect_119 (by decide) ?_
                  refine x_iload hM d_Mo_effect_121 0 rfl ?_
                  refine x_imul hM d_Mo_effect_123 ?_
                  refine x_iconst (v := 3) hM d_Mo_effect_124 (by decide) ?_
                  refine x_aload_n hM d_Mo_effect_125 rfl 1 rfl ?_
                  refine y_getr hG hM V ck_Mo 7 (Nat.le_of_ble_eq_true rfl) rfl rfl w_904 rfl d_Mo_effect_126 (40, 0, 0) (41, 7, 0) rfl rfl rfl ?_
                  refine x_iload hM d_Mo_effect_129 0 rfl ?_
                  obtain ⟨c23, F⟩ := F
                  refine y_iaload hG hM V d_Mo_effect_131 (41, 7, 0) rfl rfl (by rw [vlen V (r := (41, 7, 0)) rfl rfl]; exact c23) ?_
                  refine x_imul hM d_Mo_effect_132 ?_
                  refine x_iadd hM d_Mo_effect_133 ?_
                  refine x_istore (lv2 := [(7, .int ((12 * ((3 * v1) + v2)) + (3 * (iR ρ18 (41, 7, 0) (Int32.toNatClampNeg ((3 * v1) + v2)))))), (6, .int ((3 * v1) + v2)), (0, .ref (ad (40, 0, 0))), (1, .int v1), (2, .int v2), (3, .int v3), (4, .int v4), (5, .int v5)]) hM d_Mo_effect_134 (Nat.le_of_ble_eq_true rfl) rfl ?_
                  refine x_aload_n hM d_Mo_effect_136 rfl 2 rfl ?_
                  refine y_getr hG hM V ck_Mo 8 (Nat.le_of_ble_eq_true rfl) rfl rfl w_905 rfl d_Mo_effect_137 (40, 0, 0) (41, 8, 0) rfl rfl rfl ?_
                  refine x_iload hM d_Mo_effect_140 0 rfl ?_
                  refine x_iload_n hM d_Mo_effect_142 rfl 5 rfl ?_
                  obtain ⟨c37, F⟩ := F
                  obtain ⟨ρ24, eρ24⟩ : ∃ z : Rs, z = pI ρ18 (41, 8, 0) (Int32.toNatClampNeg ((12 * ((3 * v1) + v2)) + (3 * (iR ρ18 (41, 7, 0) (Int32.toNatClampNeg ((3 * v1) + v2)))))) v3 := ⟨_, rfl⟩
                  replace F := F ρ24 eρ24
                  refine y_iastore hG hM V d_Mo_effect_143 (41, 8, 0) rfl rfl (by rw [vlen V (r := (41, 8, 0)) rfl rfl]; exact c37) (fun h V => ?_)
                  rw [← eρ24] at V
                  clear eρ24
                  refine x_aload_n hM d_Mo_effect_144 rfl 2 rfl ?_
                  refine y_getr hG hM V ck_Mo 8 (Nat.le_of_ble_eq_true rfl) rfl rfl w_905 rfl d_Mo_effect_145 (40, 0, 0) (41, 8, 0) rfl rfl rfl ?_
                  refine x_iload hM d_Mo_effect_148 0 rfl ?_
                  refine x_iconst (v := 1) hM d_Mo_effect_150 (by decide) ?_
                  refine x_iadd hM d_Mo_effect_151 ?_
                  refine x_iload hM d_Mo_effect_152 6 rfl ?_
                  obtain ⟨c36, F⟩ := F
                  obtain ⟨ρ25, eρ25⟩ : ∃ z : Rs, z = pI ρ24 (41, 8, 0) (Int32.toNatClampNeg (((12 * ((3 * v1) + v2)) + (3 * (iR ρ18 (41, 7, 0) (Int32.toNatClampNeg ((3 * v1) + v2))))) + 1)) v4 := ⟨_, rfl⟩
                  replace F := F ρ25 eρ25
                  refine y_iastore hG hM V d_Mo_effect_154 (41, 8, 0) rfl rfl (by rw [vlen V (r := (41, 8, 0)) rfl rfl]; exact c36) (fun h V => ?_)
                  rw [← eρ25] at V
                  clear eρ25
                  refine x_aload_n hM d_Mo_effect_155 rfl 2 rfl ?_
                  refine y_getr hG hM V ck_Mo 8 (Nat.le_of_ble_eq_true rfl) rfl rfl w_905 rfl d_Mo_effect_156 (40, 0, 0) (41, 8, 0) rfl rfl rfl ?_
                  refine x_iload hM d_Mo_effect_159 0 rfl ?_
                  refine x_iconst (v := 2) hM d_Mo_effect_161 (by decide) ?_
                  refine x_iadd hM d_Mo_effect_162 ?_
                  refine x_iload hM d_Mo_effect_163 7 rfl ?_
                  obtain ⟨c35, F⟩ := F
                  obtain ⟨ρ26, eρ26⟩ : ∃ z : Rs, z = pI ρ25 (41, 8, 0) (Int32.toNatClampNeg (((12 * ((3 * v1) + v2)) + (3 * (iR ρ18 (41, 7, 0) (Int32.toNatClampNeg ((3 * v1) + v2))))) + 2)) v5 := ⟨_, rfl⟩
                  replace F := F ρ26 eρ26
                  refine y_iastore hG hM V d_Mo_effect_165 (41, 8, 0) rfl rfl (by rw [vlen V (r := (41, 8, 0)) rfl rfl]; exact c35) (fun h V => ?_)
                  rw [← eρ26] at V
                  clear eρ26
                  refine x_aload_n hM d_Mo_effect_166 rfl 2 rfl ?_
                  refine y_getr hG hM V ck_Mo 7 (Nat.le_of_ble_eq_true rfl) rfl rfl w_904 rfl d_Mo_effect_167 (40, 0, 0) (41, 7, 0) rfl rfl rfl ?_
                  refine x_iload hM d_Mo_effect_170 1 rfl ?_
                  refine x_dup2 hM d_Mo_effect_172 rfl rfl ?_
                  obtain ⟨c27, F⟩ := F
                  refine y_iaload hG hM V d_Mo_effect_173 (41, 7, 0) rfl rfl (by rw [vlen V (r := (41, 7, 0)) rfl rfl]; exact c27) ?_
                  refine x_iconst (v := 1) hM d_Mo_effect_174 (by decide) ?_
                  refine x_iadd hM d_Mo_effect_175 ?_
                  obtain ⟨c34, F⟩ := F
                  obtain ⟨ρ28, eρ28⟩ : ∃ z : Rs, z = pI ρ26 (41, 7, 0) (Int32.toNatClampNeg ((3 * v1) + v2)) ((iR ρ26 (41, 7, 0) (Int32.toNatClampNeg ((3 * v1) + v2))) + 1) := ⟨_, rfl⟩
                  replace F := F ρ28 eρ28
                  refine y_iastore hG hM V d_Mo_effect_176 (41, 7, 0) rfl rfl (by rw [vlen V (r := (41, 7, 0)) rfl rfl]; exact c34) (fun h V => ?_)
                  rw [← eρ28] at V
                  clear eρ28
                  refine x_aload_n hM d_Mo_effect_177 rfl 2 rfl ?_
                  refine x_callV hG hM (r' := r_Mo_forget) (ci := 11) [] rfl rfl (Nat.le_of_ble_eq_true rfl) yk_Mo_forget ⟨Nat.le_of_ble_eq_true rfl, Nat.le_of_ble_eq_true rfl⟩ w_893 w_895 ws_Mo_forget rfl rfl (Nat.le_of_ble_eq_true rfl) d_Mo_effect_178 (by rw [vT V rfl]; rfl) (sem_mono (F _ _ V) ?_)
                  intro u30 h F
                  obtain ⟨ad33, ρ29, V, hs31, F⟩ := F
                  obtain ⟨rfl, F⟩ := F
                  have hs31 := (St_eq hs31).symm
                  subst hs31
                  refine x_aload_n hM d_Mo_effect_181 rfl 2 rfl ?_
                  refine y_getr hG hM V ck_Mo 7 (Nat.le_of_ble_eq_true rfl) rfl rfl w_904 rfl d_Mo_effect_182 (40, 0, 0) (41, 7, 0) rfl rfl rfl ?_
                  refine x_iload hM d_Mo_effect_185 1 rfl ?_
                  obtain ⟨c32, F⟩ := F
                  refine y_iaload hG hM V d_Mo_effect_187 (41, 7, 0) rfl rfl (by rw [vlen V (r := (41, 7, 0)) rfl rfl]; exact c32) ?_
                  exact x_ireturn hM d_Mo_effect_188 rfl (y_end V hSt (F _))
                · replace F := F.1 q38
                  refine x_bipush (v := (-3)) hM d_Mo_effect_116 (by decide) ?_
                  exact x_ireturn hM d_Mo_effect_118 rfl (y_end V hSt (F _))
              · replace F := F.1 q39
                refine x_bipush (v := (-2)) hM d_Mo_effect_95 (by decide) ?_
                exact x_ireturn hM d_Mo_effect_97 rfl (y_end V hSt (F _))
            · replace F := F.1 q64
              refine x_aload_n hM d_Mo_effect_73 rfl 0 rfl ?_
              refine x_iload hM d_Mo_effect_74 5 rfl ?_
              refine x_callV hG hM (r' := r_Mo_isThing) (ci := 11) [.int v5] rfl rfl (Nat.le_of_ble_eq_true rfl) yk_Mo_isThing ⟨Nat.le_of_ble_eq_true rfl, Nat.le_of_ble_eq_true rfl⟩ w_1052 w_1054 ws_Mo_isThing rfl rfl (Nat.le_of_ble_eq_true rfl) d_Mo_effect_76 (by rw [vT V rfl]; rfl) (sem_mono (F _ _ V) ?_)
              intro u42 h F
              obtain ⟨ad63, ρ41, V, hs43, F⟩ := F
              obtain ⟨x44, rfl, F⟩ := F
              have hs43 := (St_eq hs43).symm
              subst hs43
              refine x_if_ne (tgt := 98) hM d_Mo_effect_79 (by decide) (fun q62 => ?_) (fun q62 => ?_)
              · replace F := F.2 q62
                refine x_iconst (v := 3) hM d_Mo_effect_98 (by decide) ?_
                refine x_iload_n hM d_Mo_effect_99 rfl 1 rfl ?_
                refine x_imul hM d_Mo_effect_100 ?_
                refine x_iload_n hM d_Mo_effect_101 rfl 2 rfl ?_
                refine x_iadd hM d_Mo_effect_102 ?_
                refine x_istore (lv2 := [(6, .int ((3 * v1) + v2)), (0, .ref (ad (40, 0, 0))), (1, .int v1), (2, .int v2), (3, .int v3), (4, .int v4), (5, .int v5)]) hM d_Mo_effect_103 (Nat.le_of_ble_eq_true rfl) rfl ?_
                refine x_aload_n hM d_Mo_effect_105 rfl 1 rfl ?_
                refine y_getr hG hM V ck_Mo 7 (Nat.le_of_ble_eq_true rfl) rfl rfl w_904 rfl d_Mo_effect_106 (40, 0, 0) (41, 7, 0) rfl rfl rfl ?_
                refine x_iload hM d_Mo_effect_109 0 rfl ?_
                obtain ⟨c45, F⟩ := F
                refine y_iaload hG hM V d_Mo_effect_111 (41, 7, 0) rfl rfl (by rw [vlen V (r := (41, 7, 0)) rfl rfl]; exact c45) ?_
                refine x_iconst (v := 4) hM d_Mo_effect_112 (by decide) ?_
                refine x_icmp_ne (tgt := 119) hM d_Mo_effect_113 (by decide) (fun q61 => ?_) (fun q61 => ?_)
                · replace F := F.2 q61
                  refine x_bipush (v := 12) hM d_Mo_effect_119 (by decide) ?_
                  refine x_iload hM d_Mo_effect_121 0 rfl ?_
                  refine x_imul hM d_Mo_effect_123 ?_
                  refine x_iconst (v := 3) hM d_Mo_effect_124 (by decide) ?_
                  refine x_aload_n hM d_Mo_effect_125 rfl 1 rfl ?_
                  refine y_getr hG hM V ck_Mo 7 (Nat.le_of_ble_eq_true rfl) rfl rfl w_904 rfl d_Mo_effect_126 (40, 0, 0) (41, 7, 0) rfl rfl rfl ?_
                  refine x_iload hM d_Mo_effect_129 0 rfl ?_
                  obtain ⟨c46, F⟩ := F
                  refine y_iaload hG hM V d_Mo_effect_131 (41, 7, 0) rfl rfl (by rw [vlen V (r := (41, 7, 0)) rfl rfl]; exact c46) ?_
                  refine x_imul hM d_Mo_effect_132 ?_
                  refine x_iadd hM d_Mo_effect_133 ?_
                  refine x_istore (lv2 := [(7, .int ((12 * ((3 * v1) + v2)) + (3 * (iR ρ41 (41, 7, 0) (Int32.toNatClampNeg ((3 * v1) + v2)))))), (6, .int ((3 * v1) + v2)), (0, .ref (ad (40, 0, 0))), (1, .int v1), (2, .int v2), (3, .int v3), (4, .int v4), (5, .int v5)]) hM d_Mo_effect_134 (Nat.le_of_ble_eq_true rfl) rfl ?_
                  refine x_aload_n hM d_Mo_effect_136 rfl 2 rfl ?_
                  refine y_getr hG hM V ck_Mo 8 (Nat.le_of_ble_eq_true rfl) rfl rfl w_905 rfl d_Mo_effect_137 (40, 0, 0) (41, 8, 0) rfl rfl rfl ?_
                  refine x_iload hM d_Mo_effect_140 0 rfl ?_
                  refine x_iload_n hM d_Mo_effect_142 rfl 5 rfl ?_
                  obtain ⟨c60, F⟩ := F
                  obtain ⟨ρ47, eρ47⟩ : ∃ z : Rs, z = pI ρ41 (41, 8, 0) (Int32.toNatClampNeg ((12 * ((3 * v1) + v2)) + (3 * (iR ρ41 (41, 7, 0) (Int32.toNatClampNeg ((3 * v1) + v2)))))) v3 := ⟨_, rfl⟩
                  replace F := F ρ47 eρ47
                  refine y_iastore hG hM V d_Mo_effect_143 (41, 8, 0) rfl rfl (by rw [vlen V (r := (41, 8, 0)) rfl rfl]; exact c60) (fun h V => ?_)
                  rw [← eρ47] at V
                  clear eρ47
                  refine x_aload_n hM d_Mo_effect_144 rfl 2 rfl ?_
                  refine y_getr hG hM V ck_Mo 8 (Nat.le_of_ble_eq_true rfl) rfl rfl w_905 rfl d_Mo_effect_145 (40, 0, 0) (41, 8, 0) rfl rfl rfl ?_
                  refine x_iload hM d_Mo_effect_148 0 rfl ?_
                  refine x_iconst (v := 1) hM d_Mo_effect_150 (by decide) ?_
                  refine x_iadd hM d_Mo_effect_151 ?_
                  refine x_iload hM d_Mo_effect_152 6 rfl ?_
                  obtain ⟨c59, F⟩ := F
                  obtain ⟨ρ48, eρ48⟩ : ∃ z : Rs, z = pI ρ47 (41, 8, 0) (Int32.toNatClampNeg (((12 * ((3 * v1) + v2)) + (3 * (iR ρ41 (41, 7, 0) (Int32.toNatClampNeg ((3 * v1) + v2))))) + 1)) v4 := ⟨_, rfl⟩
                  replace F := F ρ48 eρ48
                  refine y_iastore hG hM V d_Mo_effect_154 (41, 8, 0) rfl rfl (by rw [vlen V (r := (41, 8, 0)) rfl rfl]; exact c59) (fun h V => ?_)
                  rw [← eρ48] at V
                  clear eρ48
                  refine x_aload_n hM d_Mo_effect_155 rfl 2 rfl ?_
                  refine y_getr hG hM V ck_Mo 8 (Nat.le_of_ble_eq_true rfl) rfl rfl w_905 rfl d_Mo_effect_156 (40, 0, 0) (41, 8, 0) rfl rfl rfl ?_
                  refine x_iload hM d_Mo_effect_159 0 rfl ?_
                  refine x_iconst (v := 2) hM d_Mo_effect_161 (by decide) ?_
                  refine x_iadd hM d_Mo_effect_162 ?_
                  refine x_iload hM d_Mo_effect_163 7 rfl ?_
                  obtain ⟨c58, F⟩ := F
                  obtain ⟨ρ49, eρ49⟩ : ∃ z : Rs, z = pI ρ48 (41, 8, 0) (Int32.toNatClampNeg (((12 * ((3 * v1) + v2)) + (3 * (iR ρ41 (41, 7, 0) (Int32.toNatClampNeg ((3 * v1) + v2))))) + 2)) v5 := ⟨_, rfl⟩
                  replace F := F ρ49 eρ49
                  refine y_iastore hG hM V d_Mo_effect_165 (41, 8, 0) rfl rfl (by rw [vlen V (r := (41, 8, 0)) rfl rfl]; exact c58) (fun h V => ?_)
                  rw [← eρ49] at V
                  clear eρ49
                  refine x_aload_n hM d_Mo_effect_166 rfl 2 rfl ?_
                  refine y_getr hG hM V ck_Mo 7 (Nat.le_of_ble_eq_true rfl) rfl rfl w_904 rfl d_Mo_effect_167 (40, 0, 0) (41, 7, 0) rfl rfl rfl ?_
                  refine x_iload hM d_Mo_effect_170 1 rfl ?_
                  refine x_dup2 hM d_Mo_effect_172 rfl rfl ?_
                  obtain ⟨c50, F⟩ := F
                  refine y_iaload hG hM V d_Mo_effect_173 (41, 7, 0) rfl rfl (by rw [vlen V (r := (41, 7, 0)) rfl rfl]; exact c50) ?_
                  refine x_iconst (v := 1) hM d_Mo_effect_174 (by decide) ?_
                  refine x_iadd hM d_Mo_effect_175 ?_
                  obtain ⟨c57, F⟩ := F
                  obtain ⟨ρ51, eρ51⟩ : ∃ z : Rs, z = pI ρ49 (41, 7, 0) (Int32.toNatClampNeg ((3 * v1) + v2)) ((iR ρ49 (41, 7, 0) (Int32.toNatClampNeg ((3 * v1) + v2))) + 1) := ⟨_, rfl⟩
                  replace F := F ρ51 eρ51
                  refine y_iastore hG hM V d_Mo_effect_176 (41, 7, 0) rfl rfl (by rw [vlen V (r := (41, 7, 0)) rfl rfl]; exact c57) (fun h V => ?_)
                  rw [← eρ51] at V
                  clear eρ51
                  refine x_aload_n hM d_Mo_effect_177 rfl 2 rfl ?_
                  refine x_callV hG hM (r' := r_Mo_forget) (ci := 11) [] rfl rfl (Nat.le_of_ble_eq_true rfl) yk_Mo_forget ⟨Nat.le_of_ble_eq_true rfl, Nat.le_of_ble_eq_true rfl⟩ w_893 w_895 ws_Mo_forget rfl rfl (Nat.le_of_ble_eq_true rfl) d_Mo_effect_178 (by rw [vT V rfl]; rfl) (sem_mono (F _ _ V) ?_)
                  intro u53 h F
                  obtain ⟨ad56, ρ52, V, hs54, F⟩ := F
                  obtain ⟨rfl, F⟩ := F
                  have hs54 := (St_eq hs54).symm
                  subst hs54
                  refine x_aload_n hM d_Mo_effect_181 rfl 2 rfl ?_
                  refine y_getr hG hM V ck_Mo 7 (Nat.le_of_ble_eq_true rfl) rfl rfl w_904 rfl d_Mo_effect_182 (40, 0, 0) (41, 7, 0) rfl rfl rfl ?_
                  refine x_iload hM d_Mo_effect_185 1 rfl ?_
                  obtain ⟨c55, F⟩ := F
                  refine y_iaload hG hM V d_Mo_effect_187 (41, 7, 0) rfl rfl (by rw [vlen V (r := (41, 7, 0)) rfl rfl]; exact c55) ?_
                  exact x_ireturn hM d_Mo_effect_188 rfl (y_end V hSt (F _))
                · replace F := F.1 q61
                  refine x_bipush (v := (-3)) hM d_Mo_effect_116 (by decide) ?_
                  exact x_ireturn hM d_Mo_effect_118 rfl (y_end V hSt (F _))
              · replace F := F.1 q62
                refine x_goto (tgt := 95) hM d_Mo_effect_82 (by decide) ?_
                refine x_bipush (v := (-2)) hM d_Mo_effect_95 (by decide) ?_
                exact x_ireturn hM d_Mo_effect_97 rfl (y_end V hSt (F _))
          · replace F := F.1 q89
            refine x_iload hM d_Mo_effect_47 5 rfl ?_
            refine x_iconst (v := 0) hM d_Mo_effect_49 (by decide) ?_
            refine x_aload_n hM d_Mo_effect_50 rfl 0 rfl ?_
            refine y_getr hG hM V ck_Mo 1 (Nat.le_of_ble_eq_true rfl) rfl rfl w_898 rfl d_Mo_effect_51 (40, 0, 0) (41, 1, 0) rfl rfl rfl ?_
            refine x_iload_n hM d_Mo_effect_54 rfl 3 rfl ?_
            obtain ⟨c65, F⟩ := F
            refine y_iaload hG hM V d_Mo_effect_55 (41, 1, 0) rfl rfl (by rw [vlen V (r := (41, 1, 0)) rfl rfl]; exact c65) ?_
            refine x_iconst (v := 1) hM d_Mo_effect_56 (by decide) ?_
            refine x_isub hM d_Mo_effect_57 ?_
            refine x_callS hG hM (r' := r_Mo_isIn) [.int v5, .int 0, .int ((iR ρ14 (41, 1, 0) (Int32.toNatClampNeg v3)) - 1)] rfl yk_Mo_isIn ⟨Nat.le_of_ble_eq_true rfl, Nat.le_of_ble_eq_true rfl⟩ w_1017 w_1018 rfl rfl (Nat.le_of_ble_eq_true rfl) d_Mo_effect_58 (sem_mono (F _ _ V) ?_)
            intro u67 h F
            obtain ⟨ad88, ρ66, V, hs68, F⟩ := F
            obtain ⟨x69, rfl, F⟩ := F
            have hs68 := (St_eq hs68).symm
            subst hs68
            refine x_if_ne (tgt := 98) hM d_Mo_effect_61 (by decide) (fun q87 => ?_) (fun q87 => ?_)
            · replace F := F.2 q87
              refine x_iconst (v := 3) hM d_Mo_effect_98 (by decide) ?_
              refine x_iload_n hM d_Mo_effect_99 rfl 1 rfl ?_
              refine x_imul hM d_Mo_effect_100 ?_
              refine x_iload_n hM d_Mo_effect_101 rfl 2 rfl ?_
              refine x_iadd hM d_Mo_effect_102 ?_
              refine x_istore (lv2 := [(6, .int ((3 * v1) + v2)), (0, .ref (ad (40, 0, 0))), (1, .int v1), (2, .int v2), (3, .int v3), (4, .int v4), (5, .int v5)]) hM d_Mo_effect_103 (Nat.le_of_ble_eq_true rfl) rfl ?_
              refine x_aload_n hM d_Mo_effect_105 rfl 1 rfl ?_
              refine y_getr hG hM V ck_Mo 7 (Nat.le_of_ble_eq_true rfl) rfl rfl w_904 rfl d_Mo_effect_106 (40, 0, 0) (41, 7, 0) rfl rfl rfl ?_
              refine x_iload hM d_Mo_effect_109 0 rfl ?_
              obtain ⟨c70, F⟩ := F
              refine y_iaload hG hM V d_Mo_effect_111 (41, 7, 0) rfl rfl (by rw [vlen V (r := (41, 7, 0)) rfl rfl]; exact c70) ?_
              refine x_iconst (v := 4) hM d_Mo_effect_112 (by decide) ?_
              refine x_icmp_ne (tgt := 119) hM d_Mo_effect_113 (by decide) (fun q86 => ?_) (fun q86 => ?_)
              · replace F := F.2 q86
                refine x_bipush (v := 12) hM d_Mo_effect_119 (by decide) ?_
                refine x_iload hM d_Mo_effect_121 0 rfl ?_
                refine x_imul hM d_Mo_effect_123 ?_
                refine x_iconst (v := 3) hM d_Mo_effect_124 (by decide) ?_
                refine x_aload_n hM d_Mo_effect_125 rfl 1 rfl ?_
                refine y_getr hG hM V ck_Mo 7 (Nat.le_of_ble_eq_true rfl) rfl rfl w_904 rfl d_Mo_effect_126 (40, 0, 0) (41, 7, 0) rfl rfl rfl ?_
                refine x_iload hM d_Mo_effect_129 0 rfl ?_
                obtain ⟨c71, F⟩ := F
                refine y_iaload hG hM V d_Mo_effect_131 (41, 7, 0) rfl rfl (by rw [vlen V (r := (41, 7, 0)) rfl rfl]; exact c71) ?_
                refine x_imul hM d_Mo_effect_132 ?_
                refine x_iadd hM d_Mo_effect_133 ?_
                refine x_istore (lv2 := [(7, .int ((12 * ((3 * v1) + v2)) + (3 * (iR ρ66 (41, 7, 0) (Int32.toNatClampNeg ((3 * v1) + v2)))))), (6, .int ((3 * v1) + v2)), (0, .ref (ad (40, 0, 0))), (1, .int v1), (2, .int v2), (3, .int v3), (4, .int v4), (5, .int v5)]) hM d_Mo_effect_134 (Nat.le_of_ble_eq_true rfl) rfl ?_
                refine x_aload_n hM d_Mo_effect_136 rfl 2 rfl ?_
                refine y_getr hG hM V ck_Mo 8 (Nat.le_of_ble_eq_true rfl) rfl rfl w_905 rfl d_Mo_effect_137 (40, 0, 0) (41, 8, 0) rfl rfl rfl ?_
                refine x_iload hM d_Mo_effect_140 0 rfl ?_
                refine x_iload_n hM d_Mo_effect_142 rfl 5 rfl ?_
                obtain ⟨c85, F⟩ := F
                obtain ⟨ρ72, eρ72⟩ : ∃ z : Rs, z = pI ρ66 (41, 8, 0) (Int32.toNatClampNeg ((12 * ((3 * v1) + v2)) + (3 * (iR ρ66 (41, 7, 0) (Int32.toNatClampNeg ((3 * v1) + v2)))))) v3 := ⟨_, rfl⟩
                replace F := F ρ72 eρ72
                refine y_iastore hG hM V d_Mo_effect_143 (41, 8, 0) rfl rfl (by rw [vlen V (r := (41, 8, 0)) rfl rfl]; exact c85) (fun h V => ?_)
                rw [← eρ72] at V
                clear eρ72
                refine x_aload_n hM d_Mo_effect_144 rfl 2 rfl ?_
                refine y_getr hG hM V ck_Mo 8 (Nat.le_of_ble_eq_true rfl) rfl rfl w_905 rfl d_Mo_effect_145 (40, 0, 0) (41, 8, 0) rfl rfl rfl ?_
                refine x_iload hM d_Mo_effect_148 0 rfl ?_
                refine x_iconst (v := 1) hM d_Mo_effect_150 (by decide) ?_
                refine x_iadd hM d_Mo_effect_151 ?_
                refine x_iload hM d_Mo_effect_152 6 rfl ?_
                obtain ⟨c84, F⟩ := F
                obtain ⟨ρ73, eρ73⟩ : ∃ z : Rs, z = pI ρ72 (41, 8, 0) (Int32.toNatClampNeg (((12 * ((3 * v1) + v2)) + (3 * (iR ρ66 (41, 7, 0) (Int32.toNatClampNeg ((3 * v1) + v2))))) + 1)) v4 := ⟨_, rfl⟩
                replace F := F ρ73 eρ73
                refine y_iastore hG hM V d_Mo_effect_154 (41, 8, 0) rfl rfl (by rw [vlen V (r := (41, 8, 0)) rfl rfl]; exact c84) (fun h V => ?_)
                rw [← eρ73] at V
                clear eρ73
                refine x_aload_n hM d_Mo_effect_155 rfl 2 rfl ?_
                refine y_getr hG hM V ck_Mo 8 (Nat.le_of_ble_eq_true rfl) rfl rfl w_905 rfl d_Mo_effect_156 (40, 0, 0) (41, 8, 0) rfl rfl rfl ?_
                refine x_iload hM d_Mo_effect_159 0 rfl ?_
                refine x_iconst (v := 2) hM d_Mo_effect_161 (by decide) ?_
                refine x_iadd hM d_Mo_effect_162 ?_
                refine x_iload hM d_Mo_effect_163 7 rfl ?_
                obtain ⟨c83, F⟩ := F
                obtain ⟨ρ74, eρ74⟩ : ∃ z : Rs, z = pI ρ73 (41, 8, 0) (Int32.toNatClampNeg (((12 * ((3 * v1) + v2)) + (3 * (iR ρ66 (41, 7, 0) (Int32.toNatClampNeg ((3 * v1) + v2))))) + 2)) v5 := ⟨_, rfl⟩
                replace F := F ρ74 eρ74
                refine y_iastore hG hM V d_Mo_effect_165 (41, 8, 0) rfl rfl (by rw [vlen V (r := (41, 8, 0)) rfl rfl]; exact c83) (fun h V => ?_)
                rw [← eρ74] at V
                clear eρ74
                refine x_aload_n hM d_Mo_effect_166 rfl 2 rfl ?_
                refine y_getr hG hM V ck_Mo 7 (Nat.le_of_ble_eq_true rfl) rfl rfl w_904 rfl d_Mo_effect_167 (40, 0, 0) (41, 7, 0) rfl rfl rfl ?_
                refine x_iload hM d_Mo_effect_170 1 rfl ?_
                refine x_dup2 hM d_Mo_effect_172 rfl rfl ?_
                obtain ⟨c75, F⟩ := F
                refine y_iaload hG hM V d_Mo_effect_173 (41, 7, 0) rfl rfl (by rw [vlen V (r := (41, 7, 0)) rfl rfl]; exact c75) ?_
                refine x_iconst (v := 1) hM d_Mo_effect_174 (by decide) ?_
                refine x_iadd hM d_Mo_effect_175 ?_
                obtain ⟨c82, F⟩ := F
                obtain ⟨ρ76, eρ76⟩ : ∃ z : Rs, z = pI ρ74 (41, 7, 0) (Int32.toNatClampNeg ((3 * v1) + v2)) ((iR ρ74 (41, 7, 0) (Int32.toNatClampNeg ((3 * v1) + v2))) + 1) := ⟨_, rfl⟩
                replace F := F ρ76 eρ76
                refine y_iastore hG hM V d_Mo_effect_176 (41, 7, 0) rfl rfl (by rw [vlen V (r := (41, 7, 0)) rfl rfl]; exact c82) (fun h V => ?_)
                rw [← eρ76] at V
                clear eρ76
                refine x_aload_n hM d_Mo_effect_177 rfl 2 rfl ?_
                refine x_callV hG hM (r' := r_Mo_forget) (ci := 11) [] rfl rfl (Nat.le_of_ble_eq_true rfl) yk_Mo_forget ⟨Nat.le_of_ble_eq_true rfl, Nat.le_of_ble_eq_true rfl⟩ w_893 w_895 ws_Mo_forget rfl rfl (Nat.le_of_ble_eq_true rfl) d_Mo_effect_178 (by rw [vT V rfl]; rfl) (sem_mono (F _ _ V) ?_)
                intro u78 h F
                obtain ⟨ad81, ρ77, V, hs79, F⟩ := F
                obtain ⟨rfl, F⟩ := F
                have hs79 := (St_eq hs79).symm
                subst hs79
                refine x_aload_n hM d_Mo_effect_181 rfl 2 rfl ?_
                refine y_getr hG hM V ck_Mo 7 (Nat.le_of_ble_eq_true rfl) rfl rfl w_904 rfl d_Mo_effect_182 (40, 0, 0) (41, 7, 0) rfl rfl rfl ?_
                refine x_iload hM d_Mo_effect_185 1 rfl ?_
                obtain ⟨c80, F⟩ := F
                refine y_iaload hG hM V d_Mo_effect_187 (41, 7, 0) rfl rfl (by rw [vlen V (r := (41, 7, 0)) rfl rfl]; exact c80) ?_
                exact x_ireturn hM d_Mo_effect_188 rfl (y_end V hSt (F _))
              · replace F := F.1 q86
                refine x_bipush (v := (-3)) hM d_Mo_effect_116 (by decide) ?_
                exact x_ireturn hM d_Mo_effect_118 rfl (y_end V hSt (F _))
            · replace F := F.1 q87
              refine x_goto (tgt := 95) hM d_Mo_effect_64 (by decide) ?_
              refine x_bipush (v := (-2)) hM d_Mo_effect_95 (by decide) ?_
              exact x_ireturn hM d_Mo_effect_97 rfl (y_end V hSt (F _))
set_option maxRecDepth 100000 in
set_option maxHeartbeats 4000000 in
theorem T_Mo_unact_0 {G : Gc} {M : Mc} {Q : State → Prop} {ad0 : Ro → Nat} {K : (Ro → Nat) → Option Value → Rs → Prop} (hG : gok G) (hM : mok G M r_Mo_unact Q (KV G [] ad0 K))  (ρ : Rs) (F : ((iR ρ (40, 0, 0) 3) = 0 → (∀ ad, K ad (some (.int (-1))) ρ)) ∧ (¬ (iR ρ (40, 0, 0) 3) = 0 → (∀ ρ1 : Rs, ρ1 = pI ρ (40, 0, 0) 3 ((iR ρ (40, 0, 0) 3) - 1) → (semV G r_Mo_forget [] (fun ad => [.ref (ad (40, 0, 0))]) ρ1 (fun ad u3 ρ2 => u3 = none ∧ (∀ ad, K ad (some (.int (iR ρ2 (40, 0, 0) 3))) ρ2)))))) : Y G [] ad0 M Q 0 (fun ad => [(0, .ref (ad (40, 0, 0)))]) (fun ad => []) ρ := by
  intro ad h hSt V
  show X G M Q 0 [(0, .ref (ad (40, 0, 0)))] [] h
  refine x_aload_n hM d_Mo_unact_0 rfl 0 rfl ?_
  refine y_geti hG hM V ck_Mo 3 (Nat.le_of_ble_eq_true rfl) rfl rfl w_900 rfl d_Mo_unact_1 (40, 0, 0) rfl rfl ?_
  refine x_if_ne (tgt := 9) hM d_Mo_unact_4 (by decide) (fun q6 => ?_) (fun q6 => ?_)
  · replace F := F.2 q6
    refine x_aload_n hM d_Mo_unact_9 rfl 0 rfl ?_
    refine x_dup hM d_Mo_unact_10 rfl ?_
    refine y_geti hG hM V ck_Mo 3 (Nat.le_of_ble_eq_true rfl) rfl rfl w_900 rfl d_Mo_unact_11 (40, 0, 0) rfl rfl ?_
    refine x_iconst (v := 1) hM d_Mo_unact_14 (by decide) ?_
    refine x_isub hM d_Mo_unact_15 ?_
    obtain ⟨ρ1, eρ1⟩ : ∃ z : Rs, z = pI ρ (40, 0, 0) 3 ((iR ρ (40, 0, 0) 3) - 1) := ⟨_, rfl⟩
    replace F := F ρ1 eρ1
    refine y_puti hG hM V ck_Mo 3 (Nat.le_of_ble_eq_true rfl) rfl rfl w_900 rfl d_Mo_unact_16 rfl (40, 0, 0) rfl rfl (fun h V => ?_)
    rw [← eρ1] at V
    clear eρ1
    refine x_aload_n hM d_Mo_unact_19 rfl 0 rfl ?_
    refine x_callV hG hM (r' := r_Mo_forget) (ci := 11) [] rfl rfl (Nat.le_of_ble_eq_true rfl) yk_Mo_forget ⟨Nat.le_of_ble_eq_true rfl, Nat.le_of_ble_eq_true rfl⟩ w_893 w_895 ws_Mo_forget rfl rfl (Nat.le_of_ble_eq_true rfl) d_Mo_unact_20 (by rw [vT V rfl]; rfl) (sem_mono (F _ _ V) ?_)
    intro u3 h F
    obtain ⟨ad5, ρ2, V, hs4, F⟩ := F
    obtain ⟨rfl, F⟩ := F
    have hs4 := (St_eq hs4).symm
    subst hs4
    refine x_aload_n hM d_Mo_unact_23 rfl 0 rfl ?_
    refine y_geti hG hM V ck_Mo 3 (Nat.le_of_ble_eq_true rfl) rfl rfl w_900 rfl d_Mo_unact_24 (40, 0, 0) rfl rfl ?_
    exact x_ireturn hM d_Mo_unact_27 rfl (y_end V hSt (F _))
  · replace F := F.1 q6
    refine x_iconst (v := (-1)) hM d_Mo_unact_7 (by decide) ?_
    exact x_ireturn hM d_Mo_unact_8 rfl (y_end V hSt (F _))
set_option maxRecDepth 100000 in
set_option maxHeartbeats 4000000 in
theorem T_Mo_cover_0 {G : Gc} {M : Mc} {Q : State → Prop} {ad0 : Ro → Nat} {K : (Ro → Nat) → Option Value → Rs → Prop} (hG : gok G) (hM : mok G M r_Mo_cover Q (KV G [] ad0 K))  (ρ : Rs) (F : ((iR ρ (40, 0, 0) 9) = 6 → (∀ ad, K ad (some (.int (-3))) ρ)) ∧ (¬ (iR ρ (40, 0, 0) 9) = 6 → (vp_in (13 + (iR ρ (40, 0, 0) 9)) 19 ∧ (∀ ρ1 : Rs, ρ1 = pI ρ (41, 5, 0) (Int32.toNatClampNeg (13 + (iR ρ (40, 0, 0) 9))) 0 → (∀ ρ2 : Rs, ρ2 = pI ρ1 (40, 0, 0) 9 ((iR ρ1 (40, 0, 0) 9) + 1) → (∀ ad, K ad (some (.int ((iR ρ2 (40, 0, 0) 9) - 1))) ρ2)))))) : Y G [] ad0 M Q 0 (fun ad => [(0, .ref (ad (40, 0, 0)))]) (fun ad => []) ρ := by
  intro ad h hSt V
  show X G M Q 0 [(0, .ref (ad (40, 0, 0)))] [] h
  refine x_aload_n hM d_Mo_cover_0 rfl 0 rfl ?_
  refine y_geti hG hM V ck_Mo 9 (Nat.le_of_ble_eq_true rfl) rfl rfl w_906 rfl d_Mo_cover_1 (40, 0, 0) rfl rfl ?_
  refine x_bipush (v := 6) hM d_Mo_cover_4 (by decide) ?_
  refine x_icmp_ne (tgt := 12) hM d_Mo_cover_6 (by decide) (fun q4 => ?_) (fun q4 => ?_)
  · replace F := F.2 q4
    refine x_aload_n hM d_Mo_cover_12 rfl 0 rfl ?_
    refine y_getr hG hM V ck_Mo 5 (Nat.le_of_ble_eq_true rfl) rfl rfl w_902 rfl d_Mo_cover_13 (40, 0, 0) (41, 5, 0) rfl rfl rfl ?_
    refine x_bipush (v := 13) hM d_Mo_cover_16 (by decide) ?_
    refine x_aload_n hM d_Mo_cover_18 rfl 0 rfl ?_
    refine y_geti hG hM V ck_Mo 9 (Nat.le_of_ble_eq_true rfl) rfl rfl w_906 rfl d_Mo_cover_19 (40, 0, 0) rfl rfl ?_
    refine x_iadd hM d_Mo_cover_22 ?_
    refine x_iconst (v := 0) hM d_Mo_cover_23 (by decide) ?_
    obtain ⟨c3, F⟩ := F
    obtain ⟨ρ1, eρ1⟩ : ∃ z : Rs, z = pI ρ (41, 5, 0) (Int32.toNatClampNeg (13 + (iR ρ (40, 0, 0) 9))) 0 := ⟨_, rfl⟩
    replace F := F ρ1 eρ1
    refine y_iastore hG hM V d_Mo_cover_24 (41, 5, 0) rfl rfl (by rw [vlen V (r := (41, 5, 0)) rfl rfl]; exact c3) (fun h V => ?_)
    rw [← eρ1] at V
    clear eρ1
    refine x_aload_n hM d_Mo_cover_25 rfl 0 rfl ?_
    refine x_dup hM d_Mo_cover_26 rfl ?_
    refine y_geti hG hM V ck_Mo 9 (Nat.le_of_ble_eq_true rfl) rfl rfl w_906 rfl d_Mo_cover_27 (40, 0, 0) rfl rfl ?_
    refine x_iconst (v := 1) hM d_Mo_cover_30 (by decide) ?_
    refine x_iadd hM d_Mo_cover_31 ?_
    obtain ⟨ρ2, eρ2⟩ : ∃ z : Rs, z = pI ρ1 (40, 0, 0) 9 ((iR ρ1 (40, 0, 0) 9) + 1) := ⟨_, rfl⟩
    replace F := F ρ2 eρ2
    refine y_puti hG hM V ck_Mo 9 (Nat.le_of_ble_eq_true rfl) rfl rfl w_906 rfl d_Mo_cover_32 rfl (40, 0, 0) rfl rfl (fun h V => ?_)
    rw [← eρ2] at V
    clear eρ2
    refine x_aload_n hM d_Mo_cover_35 rfl 0 rfl ?_
    refine y_geti hG hM V ck_Mo 9 (Nat.le_of_ble_eq_true rfl) rfl rfl w_906 rfl d_Mo_cover_36 (40, 0, 0) rfl rfl ?_
    refine x_iconst (v := 1) hM d_Mo_cover_39 (by decide) ?_
    refine x_isub hM d_Mo_cover_40 ?_
    exact x_ireturn hM d_Mo_cover_41 rfl (y_end V hSt (F _))
  · replace F := F.1 q4
    refine x_bipush (v := (-3)) hM d_Mo_cover_9 (by decide) ?_
    exact x_ireturn hM d_Mo_cover_11 rfl (y_end V hSt (F _))
set_option maxRecDepth 100000 in
set_option maxHeartbeats 4000000 in
theorem T_Mo_part_0 {G : Gc} {M : Mc} {Q : State → Prop} {ad0 : Ro → Nat} {K : (Ro → Nat) → Option Value → Rs → Prop} (hG : gok G) (hM : mok G M r_Mo_part Q (KV G [] ad0 K)) (v1 : Int32) (v2 : Int32) (v3 : Int32) (v4 : Int32) (ρ : Rs) (F : semV G r_Mo_isIn [] (fun ad => [.int v1, .int 0, .int ((iR ρ (40, 0, 0) 9) - 1)]) ρ (fun ad u2 ρ1 => ∃ x4 : Int32, u2 = some (.int x4) ∧ ((x4 = 0 → (∀ ad, K ad (some (.int (-2))) ρ1)) ∧ (¬ x4 = 0 → (semV G r_Mo_isCondition [] (fun ad => [.ref (ad (40, 0, 0)), .int v2, .int v3, .int v4]) ρ1 (fun ad u6 ρ5 => ∃ x8 : Int32, u6 = some (.int x8) ∧ ((x8 = 0 → (∀ ad, K ad (some (.int (-2))) ρ5)) ∧ (¬ x8 = 0 → (semV G r_Mo_more [] (fun ad => [.ref (ad (40, 0, 0)), .int (13 + v1), .int v2, .int v3, .int v4]) ρ5 (fun ad u10 ρ9 => ∃ x12 : Int32, u10 = some (.int x12) ∧ (∀ ad, K ad (some (.int x12)) ρ9))))))))))) : Y G [] ad0 M Q 0 (fun ad => [(0, .ref (ad (40, 0, 0))), (1, .int v1), (2, .int v2), (3, .int v3), (4, .int v4)]) (fun ad => []) ρ := by
  intro ad h hSt V
  show X G M Q 0 [(0, .ref (ad (40, 0, 0))), (1, .int v1), (2, .int v2), (3, .int v3), (4, .int v4)] [] h
  refine x_iload_n hM d_Mo_part_0 rfl 1 rfl ?_
  refine x_iconst (v := 0) hM d_Mo_part_1 (by decide) ?_
  refine x_aload_n hM d_Mo_part_2 rfl 0 rfl ?_
  refine y_geti hG hM V ck_Mo 9 (Nat.le_of_ble_eq_true rfl) rfl rfl w_906 rfl d_Mo_part_3 (40, 0, 0) rfl rfl ?_
  refine x_iconst (v := 1) hM d_Mo_part_6 (by decide) ?_
  refine x_isub hM d_Mo_part_7 ?_
  refine x_callS hG hM (r' := r_Mo_isIn) [.int v1, .int 0, .int ((iR ρ (40, 0, 0) 9) - 1)] rfl yk_Mo_isIn ⟨Nat.le_of_ble_eq_true rfl, Nat.le_of_ble_eq_true rfl⟩ w_1017 w_1018 rfl rfl (Nat.le_of_ble_eq_true rfl) d_Mo_part_8 (sem_mono (F _ _ V) ?_)
  intro u2 h F
  obtain ⟨ad17, ρ1, V, hs3, F⟩ := F
  obtain ⟨x4, rfl, F⟩ := F
  have hs3 := (St_eq hs3).symm
  subst hs3
  refine x_if_eq (tgt := 40) hM d_Mo_part_11 (by decide) (fun q16 => ?_) (fun q16 => ?_)
  · replace F := F.1 q16
    refine x_bipush (v := (-2)) hM d_Mo_part_40 (by decide) ?_
    exact x_ireturn hM d_Mo_part_42 rfl (y_end V hSt (F _))
  · replace F := F.2 q16
    refine x_aload_n hM d_Mo_part_14 rfl 0 rfl ?_
    refine x_iload_n hM d_Mo_part_15 rfl 2 rfl ?_
    refine x_iload_n hM d_Mo_part_16 rfl 3 rfl ?_
    refine x_iload hM d_Mo_part_17 4 rfl ?_
    refine x_callV hG hM (r' := r_Mo_isCondition) (ci := 11) [.int v2, .int v3, .int v4] rfl rfl (Nat.le_of_ble_eq_true rfl) yk_Mo_isCondition ⟨Nat.le_of_ble_eq_true rfl, Nat.le_of_ble_eq_true rfl⟩ w_1048 w_1050 ws_Mo_isCondition rfl rfl (Nat.le_of_ble_eq_true rfl) d_Mo_part_19 (by rw [vT V rfl]; rfl) (sem_mono (F _ _ V) ?_)
    intro u6 h F
    obtain ⟨ad15, ρ5, V, hs7, F⟩ := F
    obtain ⟨x8, rfl, F⟩ := F
    have hs7 := (St_eq hs7).symm
    subst hs7
    refine x_if_eq (tgt := 40) hM d_Mo_part_22 (by decide) (fun q14 => ?_) (fun q14 => ?_)
    · replace F := F.1 q14
      refine x_bipush (v := (-2)) hM d_Mo_part_40 (by decide) ?_
      exact x_ireturn hM d_Mo_part_42 rfl (y_end V hSt (F _))
    · replace F := F.2 q14
      refine x_aload_n hM d_Mo_part_25 rfl 0 rfl ?_
      refine x_bipush (v := 13) hM d_Mo_part_26 (by decide) ?_
      refine x_iload_n hM d_Mo_part_28 rfl 1 rfl ?_
      refine x_iadd hM d_Mo_part_29 ?_
      refine x_iload_n hM d_Mo_part_30 rfl 2 rfl ?_
      refine x_iload_n hM d_Mo_part_31 rfl 3 rfl ?_
      refine x_iload hM d_Mo_part_32 4 rfl ?_
      refine x_callV hG hM (r' := r_Mo_more) (ci := 11) [.int (13 + v1), .int v2, .int v3, .int v4] rfl rfl (Nat.le_of_ble_eq_true rfl) yk_Mo_more ⟨Nat.le_of_ble_eq_true rfl, Nat.le_of_ble_eq_true rfl⟩ w_1056 w_1058 ws_Mo_more rfl rfl (Nat.le_of_ble_eq_true rfl) d_Mo_part_34 (by rw [vT V rfl]; rfl) (sem_mono (F _ _ V) ?_)
      intro u10 h F
      obtain ⟨ad13, ρ9, V, hs11, F⟩ := F
      obtain ⟨x12, rfl, F⟩ := F
      have hs11 := (St_eq hs11).symm
      subst hs11
      refine x_goto (tgt := 42) hM d_Mo_part_37 (by decide) ?_
      exact x_ireturn hM d_Mo_part_42 rfl (y_end V hSt (F _))
set_option maxRecDepth 100000 in
set_option maxHeartbeats 4000000 in
theorem T_Mo_bare_0 {G : Gc} {M : Mc} {Q : State → Prop} {ad0 : Ro → Nat} {K : (Ro → Nat) → Option Value → Rs → Prop} (hG : gok G) (hM : mok G M r_Mo_bare Q (KV G [] ad0 K))  (ρ : Rs) (F : ∀ ρ1 : Rs, ρ1 = pI ρ (40, 0, 0) 9 0 → (∀ ad, K ad (some (.int (iR ρ (40, 0, 0) 9))) ρ1)) : Y G [] ad0 M Q 0 (fun ad => [(0, .ref (ad (40, 0, 0)))]) (fun ad => []) ρ := by
  intro ad h hSt V
  show X G M Q 0 [(0, .ref (ad (40, 0, 0)))] [] h
  refine x_aload_n hM d_Mo_bare_0 rfl 0 rfl ?_
  refine y_geti hG hM V ck_Mo 9 (Nat.le_of_ble_eq_true rfl) rfl rfl w_906 rfl d_Mo_bare_1 (40, 0, 0) rfl rfl ?_
  refine x_istore_n (lv2 := [(1, .int (iR ρ (40, 0, 0) 9)), (0, .ref (ad (40, 0, 0)))]) hM d_Mo_bare_4 rfl (Nat.le_of_ble_eq_true rfl) rfl ?_
  refine x_aload_n hM d_Mo_bare_5 rfl 1 rfl ?_
  refine x_iconst (v := 0) hM d_Mo_bare_6 (by decide) ?_
  obtain ⟨ρ1, eρ1⟩ : ∃ z : Rs, z = pI ρ (40, 0, 0) 9 0 := ⟨_, rfl⟩
  replace F := F ρ1 eρ1
  refine y_puti hG hM V ck_Mo 9 (Nat.le_of_ble_eq_true rfl) rfl rfl w_906 rfl d_Mo_bare_7 rfl (40, 0, 0) rfl rfl (fun h V => ?_)
  rw [← eρ1] at V
  clear eρ1
  refine x_iload_n hM d_Mo_bare_10 rfl 0 rfl ?_
  exact x_ireturn hM d_Mo_bare_11 rfl (y_end V hSt (F _))
set_option maxRecDepth 100000 in
set_option maxHeartbeats 4000000 in
theorem T_Mo_leads_0 {G : Gc} {M : Mc} {Q : State → Prop} {ad0 : Ro → Nat} {K : (Ro → Nat) → Option Value → Rs → Prop} (hG : gok G) (hM : mok G M r_Mo_leads Q (KV G [] ad0 K)) (v1 : Int32) (v2 : Int32) (v3 : Int32) (ρ : Rs) (F : semV G r_Mo_isState [] (fun ad => [.ref (ad (40, 0, 0)), .int v1]) ρ (fun ad u2 ρ1 => ∃ x4 : Int32, u2 = some (.int x4) ∧ ((x4 = 0 → (∀ ad, K ad (some (.int (-2))) ρ1)) ∧ (¬ x4 = 0 → (semV G r_Mo_isAct [] (fun ad => [.ref (ad (40, 0, 0)), .int v2]) ρ1 (fun ad u6 ρ5 => ∃ x8 : Int32, u6 = some (.int x8) ∧ ((x8 = 0 → (∀ ad, K ad (some (.int (-2))) ρ5)) ∧ (¬ x8 = 0 → (vp_in v2 12 ∧ (semV G r_Mo_isIn [] (fun ad => [.int v3, .int 0, .int ((iR ρ5 (41, 4, 0) (Int32.toNatClampNeg v2)) - 1)]) ρ5 (fun ad u11 ρ10 => ∃ x13 : Int32, u11 = some (.int x13) ∧ ((x13 = 0 → (∀ ad, K ad (some (.int (-2))) ρ10)) ∧ (¬ x13 = 0 → (semV G r_Mo_open [] (fun ad => [.ref (ad (40, 0, 0)), .int v1]) ρ10 (fun ad u15 ρ14 => u15 = none ∧ (semV G r_Mo_hold [] (fun ad => [.ref (ad (40, 0, 0)), .int v2]) ρ14 (fun ad u18 ρ17 => ∃ x20 : Int32, u18 = some (.int x20) ∧ ((x20 = 0 → (∀ ad, K ad (some (.int (-1))) ρ17)) ∧ (¬ x20 = 0 → (semV G r_Mo_goes [] (fun ad => [.ref (ad (40, 0, 0)), .int ((3 * v2) + v3)]) ρ17 (fun ad u22 ρ21 => ∃ x24 : Int32, u22 = some (.int x24) ∧ (∀ ad, K ad (some (.int x24)) ρ21)))))))))))))))))))))) : Y G [] ad0 M Q 0 (fun ad => [(0, .ref (ad (40, 0, 0))), (1, .int v1), (2, .int v2), (3, .int v3)]) (fun ad => []) ρ := by
  intro ad h hSt V
  show X G M Q 0 [(0, .ref (ad (40, 0, 0))), (1, .int v1), (2, .int v2), (3, .int v3)] [] h
  refine x_aload_n hM d_Mo_leads_0 rfl 0 rfl ?_
  refine x_iload_n hM d_Mo_leads_1 rfl 1 rfl ?_
  refine x_callV hG hM (r' := r_Mo_isState) (ci := 11) [.int v1] rfl rfl (Nat.le_of_ble_eq_true rfl) yk_Mo_isState ⟨Nat.le_of_ble_eq_true rfl, Nat.le_of_ble_eq_true rfl⟩ w_1028 w_1030 ws_Mo_isState rfl rfl (Nat.le_of_ble_eq_true rfl) d_Mo_leads_2 (by rw [vT V rfl]; rfl) (sem_mono (F _ _ V) ?_)
  intro u2 h F
  obtain ⟨ad34, ρ1, V, hs3, F⟩ := F
  obtain ⟨x4, rfl, F⟩ := F
  have hs3 := (St_eq hs3).symm
  subst hs3
  refine x_if_eq (tgt := 32) hM d_Mo_leads_5 (by decide) (fun q33 => ?_) (fun q33 => ?_)
  · replace F := F.1 q33
    refine x_bipush (v := (-2)) hM d_Mo_leads_32 (by decide) ?_
    exact x_ireturn hM d_Mo_leads_34 rfl (y_end V hSt (F _))
  · replace F := F.2 q33
    refine x_aload_n hM d_Mo_leads_8 rfl 0 rfl ?_
    refine x_iload_n hM d_Mo_leads_9 rfl 2 rfl ?_
    refine x_callV hG hM (r' := r_Mo_isAct) (ci := 11) [.int v2] rfl rfl (Nat.le_of_ble_eq_true rfl) yk_Mo_isAct ⟨Nat.le_of_ble_eq_true rfl, Nat.le_of_ble_eq_true rfl⟩ w_1040 w_1042 ws_Mo_isAct rfl rfl (Nat.le_of_ble_eq_true rfl) d_Mo_leads_10 (by rw [vT V rfl]; rfl) (sem_mono (F _ _ V) ?_)
    intro u6 h F
    obtain ⟨ad32, ρ5, V, hs7, F⟩ := F
    obtain ⟨x8, rfl, F⟩ := F
    have hs7 := (St_eq hs7).symm
    subst hs7
    refine x_if_eq (tgt := 32) hM d_Mo_leads_13 (by decide) (fun q31 => ?_) (fun q31 => ?_)
    · replace F := F.1 q31
      refine x_bipush (v := (-2)) hM d_Mo_leads_32 (by decide) ?_
      exact x_ireturn hM d_Mo_leads_34 rfl (y_end V hSt (F _))
    · replace F := F.2 q31
      refine x_iload_n hM d_Mo_leads_16 rfl 3 rfl ?_
      refine x_iconst (v := 0) hM d_Mo_leads_17 (by decide) ?_
      refine x_aload_n hM d_Mo_leads_18 rfl 0 rfl ?_
      refine y_getr hG hM V ck_Mo 4 (Nat.le_of_ble_eq_true rfl) rfl rfl w_901 rfl d_Mo_leads_19 (40, 0, 0) (41, 4, 0) rfl rfl rfl ?_
      refine x_iload_n hM d_Mo_leads_22 rfl 2 rfl ?_
      obtain ⟨c9, F⟩ := F
      refine y_iaload hG hM V d_Mo_leads_23 (41, 4, 0) rfl rfl (by rw [vlen V (r := (41, 4, 0)) rfl rfl]; exact c9) ?_
      refine x_iconst (v := 1) hM d_Mo_leads_24 (by decide) ?_
      refine x_isub hM d_Mo_leads_25 ?_
      refine x_callS hG hM (r' := r_Mo_isIn) [.int v3, .int 0, .int ((iR ρ5 (41, 4, 0) (Int32.toNatClampNeg v2)) - 1)] rfl yk_Mo_isIn ⟨Nat.le_of_ble_eq_true rfl, Nat.le_of_ble_eq_true rfl⟩ w_1017 w_1018 rfl rfl (Nat.le_of_ble_eq_true rfl) d_Mo_leads_26 (sem_mono (F _ _ V) ?_)
      intro u11 h F
      obtain ⟨ad30, ρ10, V, hs12, F⟩ := F
      obtain ⟨x13, rfl, F⟩ := F
      have hs12 := (St_eq hs12).symm
      subst hs12
      refine x_if_ne (tgt := 35) hM d_Mo_leads_29 (by decide) (fun q29 => ?_) (fun q29 => ?_)
      · replace F := F.2 q29
        refine x_aload_n hM d_Mo_leads_35 rfl 0 rfl ?_
        refine x_iload_n hM d_Mo_leads_36 rfl 1 rfl ?_
        refine x_callV hG hM (r' := r_Mo_open) (ci := 11) [.int v1] rfl rfl (Nat.le_of_ble_eq_true rfl) yk_Mo_open ⟨Nat.le_of_ble_eq_true rfl, Nat.le_of_ble_eq_true rfl⟩ w_1092 w_1094 ws_Mo_open rfl rfl (Nat.le_of_ble_eq_true rfl) d_Mo_leads_37 (by rw [vT V rfl]; rfl) (sem_mono (F _ _ V) ?_)
        intro u15 h F
        obtain ⟨ad28, ρ14, V, hs16, F⟩ := F
        obtain ⟨rfl, F⟩ := F
        have hs16 := (St_eq hs16).symm
        subst hs16
        refine x_aload_n hM d_Mo_leads_40 rfl 0 rfl ?_
        refine x_iload_n hM d_Mo_leads_41 rfl 2 rfl ?_
        refine x_callV hG hM (r' := r_Mo_hold) (ci := 11) [.int v2] rfl rfl (Nat.le_of_ble_eq_true rfl) yk_Mo_hold ⟨Nat.le_of_ble_eq_true rfl, Nat.le_of_ble_eq_true rfl⟩ w_1096 w_1098 ws_Mo_hold rfl rfl (Nat.le_of_ble_eq_true rfl) d_Mo_leads_42 (by rw [vT V rfl]; rfl) (sem_mono (F _ _ V) ?_)
        intro u18 h F
        obtain ⟨ad27, ρ17, V, hs19, F⟩ := F
        obtain ⟨x20, rfl, F⟩ := F
        have hs19 := (St_eq hs19).symm
        subst hs19
        refine x_if_eq (tgt := 60) hM d_Mo_leads_45 (by decide) (fun q26 => ?_) (fun q26 => ?_)
        · replace F := F.1 q26
          refine x_iconst (v := (-1)) hM d_Mo_leads_60 (by decide) ?_
          exact x_ireturn hM d_Mo_leads_61 rfl (y_end V hSt (F _))
        · replace F := F.2 q26
          refine x_aload_n hM d_Mo_leads_48 rfl 0 rfl ?_
          refine x_iconst (v := 3) hM d_Mo_leads_49 (by decide) ?_
          refine x_iload_n hM d_Mo_leads_50 rfl 2 rfl ?_
          refine x_imul hM d_Mo_leads_51 ?_
          refine x_iload_n hM d_Mo_leads_52 rfl 3 rfl ?_
          refine x_iadd hM d_Mo_leads_53 ?_
          refine x_callV hG hM (r' := r_Mo_goes) (ci := 11) [.int ((3 * v2) + v3)] rfl rfl (Nat.le_of_ble_eq_true rfl) yk_Mo_goes ⟨Nat.le_of_ble_eq_true rfl, Nat.le_of_ble_eq_true rfl⟩ w_1100 w_1102 ws_Mo_goes rfl rfl (Nat.le_of_ble_eq_true rfl) d_Mo_leads_54 (by rw [vT V rfl]; rfl) (sem_mono (F _ _ V) ?_)
          intro u22 h F
          obtain ⟨ad25, ρ21, V, hs23, F⟩ := F
          obtain ⟨x24, rfl, F⟩ := F
          have hs23 := (St_eq hs23).symm
          subst hs23
          refine x_goto (tgt := 61) hM d_Mo_leads_57 (by decide) ?_
          exact x_ireturn hM d_Mo_leads_61 rfl (y_end V hSt (F _))
      · replace F := F.1 q29
        refine x_bipush (v := (-2)) hM d_Mo_leads_32 (by decide) ?_
        exact x_ireturn hM d_Mo_leads_34 rfl (y_end V hSt (F _))
set_option maxRecDepth 100000 in
set_option maxHeartbeats 4000000 in
theorem T_Mo_open_0 {G : Gc} {M : Mc} {Q : State → Prop} {ad0 : Ro → Nat} {K : (Ro → Nat) → Option Value → Rs → Prop} (hG : gok G) (hM : mok G M r_Mo_open Q (KV G [] ad0 K)) (v1 : Int32) (ρ : Rs) (F : Y G [] ad0 M Q 4 (fun ad => [(0, .ref (ad (40, 0, 0))), (2, .int v1), (3, .int 0)]) (fun ad => []) ρ) : Y G [] ad0 M Q 0 (fun ad => [(0, .ref (ad (40, 0, 0))), (1, .int v1)]) (fun ad => []) ρ := by
  intro ad h hSt V
  show X G M Q 0 [(0, .ref (ad (40, 0, 0))), (1, .int v1)] [] h
  refine x_iload_n hM d_Mo_open_0 rfl 1 rfl ?_
  refine x_istore_n (lv2 := [(2, .int v1), (0, .ref (ad (40, 0, 0))), (1, .int v1)]) hM d_Mo_open_1 rfl (Nat.le_of_ble_eq_true rfl) rfl ?_
  refine x_iconst (v := 0) hM d_Mo_open_2 (by decide) ?_
  refine x_istore_n (lv2 := [(3, .int 0), (2, .int v1), (0, .ref (ad (40, 0, 0))), (1, .int v1)]) hM d_Mo_open_3 rfl (Nat.le_of_ble_eq_true rfl) rfl ?_
  refine x_sub [2, 1, 0] rfl ?_
  exact F _ _ hSt V
set_option maxRecDepth 100000 in
set_option maxHeartbeats 4000000 in
theorem T_Mo_open_4 {G : Gc} {M : Mc} {Q : State → Prop} {ad0 : Ro → Nat} {K : (Ro → Nat) → Option Value → Rs → Prop} (hG : gok G) (hM : mok G M r_Mo_open Q (KV G [] ad0 K)) (v2 : Int32) (v3 : Int32) (ρ : Rs) (F : ((iR ρ (40, 0, 0) 0) ≤ v3 → (∀ ad, K ad none ρ)) ∧ (¬ (iR ρ (40, 0, 0) 0) ≤ v3 → (vp_in v3 8 ∧ (¬ (iR ρ (41, 1, 0) (Int32.toNatClampNeg v3)) = 0 ∧ (vp_in v3 8 ∧ (∀ ρ3 : Rs, ρ3 = pI ρ (41, 10, 0) (Int32.toNatClampNeg v3) (v2 - v2 / (iR ρ (41, 1, 0) (Int32.toNatClampNeg v3)) * (iR ρ (41, 1, 0) (Int32.toNatClampNeg v3))) → (vp_in v3 8 ∧ (¬ (iR ρ3 (41, 1, 0) (Int32.toNatClampNeg v3)) = 0 ∧ (Y G [] ad0 M Q 4 (fun ad => [(0, .ref (ad (40, 0, 0))), (2, .int (v2 / (iR ρ3 (41, 1, 0) (Int32.toNatClampNeg v3)))), (3, .int (v3 + 1))]) (fun ad => []) ρ3))))))))) : Y G [] ad0 M Q 4 (fun ad => [(0, .ref (ad (40, 0, 0))), (2, .int v2), (3, .int v3)]) (fun ad => []) ρ := by
  intro ad h hSt V
  show X G M Q 4 [(0, .ref (ad (40, 0, 0))), (2, .int v2), (3, .int v3)] [] h
  refine x_iload_n hM d_Mo_open_4 rfl 2 rfl ?_
  refine x_aload_n hM d_Mo_open_5 rfl 0 rfl ?_
  refine y_geti hG hM V ck_Mo 0 (Nat.le_of_ble_eq_true rfl) rfl rfl w_897 rfl d_Mo_open_6 (40, 0, 0) rfl rfl ?_
  refine x_icmp_ge (tgt := 41) hM d_Mo_open_9 (by decide) (fun q8 => ?_) (fun q8 => ?_)
  · replace F := F.1 q8
    exact x_return hM d_Mo_open_41 rfl (y_end V hSt (F _))
  · replace F := F.2 q8
    refine x_aload_n hM d_Mo_open_12 rfl 0 rfl ?_
    refine y_getr hG hM V ck_Mo 10 (Nat.le_of_ble_eq_true rfl) rfl rfl w_907 rfl d_Mo_open_13 (40, 0, 0) (41, 10, 0) rfl rfl rfl ?_
    refine x_iload_n hM d_Mo_open_16 rfl 2 rfl ?_
    refine x_iload_n hM d_Mo_open_17 rfl 1 rfl ?_
    refine x_aload_n hM d_Mo_open_18 rfl 0 rfl ?_
    refine y_getr hG hM V ck_Mo 1 (Nat.le_of_ble_eq_true rfl) rfl rfl w_898 rfl d_Mo_open_19 (40, 0, 0) (41, 1, 0) rfl rfl rfl ?_
    refine x_iload_n hM d_Mo_open_22 rfl 2 rfl ?_
    obtain ⟨c2, F⟩ := F
    refine y_iaload hG hM V d_Mo_open_23 (41, 1, 0) rfl rfl (by rw [vlen V (r := (41, 1, 0)) rfl rfl]; exact c2) ?_
    obtain ⟨c7, F⟩ := F
    refine x_irem hM d_Mo_open_24 c7 ?_
    obtain ⟨c6, F⟩ := F
    obtain ⟨ρ3, eρ3⟩ : ∃ z : Rs, z = pI ρ (41, 10, 0) (Int32.toNatClampNeg v3) (v2 - v2 / (iR ρ (41, 1, 0) (Int32.toNatClampNeg v3)) * (iR ρ (41, 1, 0) (Int32.toNatClampNeg v3))) := ⟨_, rfl⟩
    replace F := F ρ3 eρ3
    refine y_iastore hG hM V d_Mo_open_25 (41, 10, 0) rfl rfl (by rw [vlen V (r := (41, 10, 0)) rfl rfl]; exact c6) (fun h V => ?_)
    rw [← eρ3] at V
    clear eρ3
    refine x_iload_n hM d_Mo_open_26 rfl 1 rfl ?_
    refine x_aload_n hM d_Mo_open_27 rfl 0 rfl ?_
    refine y_getr hG hM V ck_Mo 1 (Nat.le_of_ble_eq_true rfl) rfl rfl w_898 rfl d_Mo_open_28 (40, 0, 0) (41, 1, 0) rfl rfl rfl ?_
    refine x_iload_n hM d_Mo_open_31 rfl 2 rfl ?_
    obtain ⟨c4, F⟩ := F
    refine y_iaload hG hM V d_Mo_open_32 (41, 1, 0) rfl rfl (by rw [vlen V (r := (41, 1, 0)) rfl rfl]; exact c4) ?_
    obtain ⟨c5, F⟩ := F
    refine x_idiv hM d_Mo_open_33 c5 ?_
    refine x_istore_n (lv2 := [(2, .int (v2 / (iR ρ3 (41, 1, 0) (Int32.toNatClampNeg v3)))), (0, .ref (ad (40, 0, 0))), (3, .int v3)]) hM d_Mo_open_34 rfl (Nat.le_of_ble_eq_true rfl) rfl ?_
    refine x_iinc (v := (v3 + 1)) (lv2 := [(3, .int (v3 + 1)), (2, .int (v2 / (iR ρ3 (41, 1, 0) (Int32.toNatClampNeg v3)))), (0, .ref (ad (40, 0, 0)))]) hM d_Mo_open_35 (j := 2) rfl rfl (Nat.le_of_ble_eq_true rfl) rfl ?_
    refine x_goto (tgt := 4) hM d_Mo_open_38 (by decide) ?_
    refine x_sub [2, 1, 0] rfl ?_
    exact F _ _ hSt V
