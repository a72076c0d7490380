set_option maxRecDepth 100000 in
set_option maxHeartbeats 4000000 in
theorem T_Cl_add_0 {G : Gc} {M : Mc} {Q : State → Prop} {ad0 : Ro → Nat} {K : (Ro → Nat) → Option Value → Rs → Prop} (hG : gok G) (hM : mok G M r_Cl_add Q (KV G [] ad0 K)) (i0 j0 : Nat) (hc0 : okC i0 j0) (v1 : Int32) (v2 : Int32) (v3 : Int32) (ρ : Rs) (F : ((iR ρ (10, i0, j0) 0) < 4 → (vp_in (iR ρ (10, i0, j0) 0) 4 ∧ (∀ ρ1 : Rs, ρ1 = pI ρ (11, i0, j0) (Int32.toNatClampNeg (iR ρ (10, i0, j0) 0)) v1 → (vp_in (iR ρ1 (10, i0, j0) 0) 4 ∧ (∀ ρ2 : Rs, ρ2 = pI ρ1 (12, i0, j0) (Int32.toNatClampNeg (iR ρ1 (10, i0, j0) 0)) v2 → (vp_in (iR ρ2 (10, i0, j0) 0) 4 ∧ (∀ ρ3 : Rs, ρ3 = pI ρ2 (13, i0, j0) (Int32.toNatClampNeg (iR ρ2 (10, i0, j0) 0)) v3 → (∀ ρ4 : Rs, ρ4 = pI ρ3 (10, i0, j0) 0 ((iR ρ3 (10, i0, j0) 0) + 1) → (∀ ad, K ad (some (.int (iR ρ4 (10, i0, j0) 0))) ρ4))))))))) ∧ (¬ (iR ρ (10, i0, j0) 0) < 4 → (∀ ad, K ad (some (.int (-3))) ρ))) : Y G [] ad0 M Q 0 (fun ad => [(0, .ref (ad (10, i0, j0))), (1, .int v1), (2, .int v2), (3, .int v3)]) (fun ad => []) ρ := by
  intro ad h hSt V
  show X G M Q 0 [(0, .ref (ad (10, i0, j0))), (1, .int v1), (2, .int v2), (3, .int v3)] [] h
  refine x_aload_n hM d_Cl_add_0 rfl 0 rfl ?_
  refine y_geti hG hM V ck_Cl 0 (Nat.le_of_ble_eq_true rfl) rfl rfl w_43 rfl d_Cl_add_1 (10, i0, j0) (ok_cl hc0) rfl ?_
  refine x_iconst (v := 4) hM d_Cl_add_4 (by decide) ?_
  refine x_icmp_lt (tgt := 11) hM d_Cl_add_5 (by decide) (fun q8 => ?_) (fun q8 => ?_)
  · replace F := F.1 q8
    refine x_aload_n hM d_Cl_add_11 rfl 0 rfl ?_
    refine y_getr hG hM V ck_Cl 1 (Nat.le_of_ble_eq_true rfl) rfl rfl w_48 rfl d_Cl_add_12 (10, i0, j0) (11, i0, j0) (ok_cl hc0) rfl rfl ?_
    refine x_aload_n hM d_Cl_add_15 rfl 0 rfl ?_
    refine y_geti hG hM V ck_Cl 0 (Nat.le_of_ble_eq_true rfl) rfl rfl w_43 rfl d_Cl_add_16 (10, i0, j0) (ok_cl hc0) rfl ?_
    refine x_iload_n hM d_Cl_add_19 rfl 1 rfl ?_
    obtain ⟨c7, F⟩ := F
    obtain ⟨ρ1, eρ1⟩ : ∃ z : Rs, z = pI ρ (11, i0, j0) (Int32.toNatClampNeg (iR ρ (10, i0, j0) 0)) v1 := ⟨_, rfl⟩
    replace F := F ρ1 eρ1
    refine y_iastore hG hM V d_Cl_add_20 (11, i0, j0) (ok_c1 hc0) rfl (by rw [vlen V (r := (11, i0, j0)) (ok_c1 hc0) rfl]; exact c7) (fun h V => ?_)
    rw [← eρ1] at V
    clear eρ1
    refine x_aload_n hM d_Cl_add_21 rfl 0 rfl ?_
    refine y_getr hG hM V ck_Cl 2 (Nat.le_of_ble_eq_true rfl) rfl rfl w_50 rfl d_Cl_add_22 (10, i0, j0) (12, i0, j0) (ok_cl hc0) rfl rfl ?_
    refine x_aload_n hM d_Cl_add_25 rfl 0 rfl ?_
    refine y_geti hG hM V ck_Cl 0 (Nat.le_of_ble_eq_true rfl) rfl rfl w_43 rfl d_Cl_add_26 (10, i0, j0) (ok_cl hc0) rfl ?_
    refine x_iload_n hM d_Cl_add_29 rfl 2 rfl ?_
    obtain ⟨c6, F⟩ := F
    obtain ⟨ρ2, eρ2⟩ : ∃ z : Rs, z = pI ρ1 (12, i0, j0) (Int32.toNatClampNeg (iR ρ1 (10, i0, j0) 0)) v2 := ⟨_, rfl⟩
    replace F := F ρ2 eρ2
    refine y_iastore hG hM V d_Cl_add_30 (12, i0, j0) (ok_c2 hc0) rfl (by rw [vlen V (r := (12, i0, j0)) (ok_c2 hc0) rfl]; exact c6) (fun h V => ?_)
    rw [← eρ2] at V
    clear eρ2
    refine x_aload_n hM d_Cl_add_31 rfl 0 rfl ?_
    refine y_getr hG hM V ck_Cl 3 (Nat.le_of_ble_eq_true rfl) rfl rfl w_52 rfl d_Cl_add_32 (10, i0, j0) (13, i0, j0) (ok_cl hc0) rfl rfl ?_
    refine x_aload_n hM d_Cl_add_35 rfl 0 rfl ?_
    refine y_geti hG hM V ck_Cl 0 (Nat.le_of_ble_eq_true rfl) rfl rfl w_43 rfl d_Cl_add_36 (10, i0, j0) (ok_cl hc0) rfl ?_
    refine x_iload_n hM d_Cl_add_39 rfl 3 rfl ?_
    obtain ⟨c5, F⟩ := F
    obtain ⟨ρ3, eρ3⟩ : ∃ z : Rs, z = pI ρ2 (13, i0, j0) (Int32.toNatClampNeg (iR ρ2 (10, i0, j0) 0)) v3 := ⟨_, rfl⟩
    replace F := F ρ3 eρ3
    refine y_iastore hG hM V d_Cl_add_40 (13, i0, j0) (ok_c3 hc0) rfl (by rw [vlen V (r := (13, i0, j0)) (ok_c3 hc0) rfl]; exact c5) (fun h V => ?_)
    rw [← eρ3] at V
    clear eρ3
    refine x_aload_n hM d_Cl_add_41 rfl 0 rfl ?_
    refine x_dup hM d_Cl_add_42 rfl ?_
    refine y_geti hG hM V ck_Cl 0 (Nat.le_of_ble_eq_true rfl) rfl rfl w_43 rfl d_Cl_add_43 (10, i0, j0) (ok_cl hc0) rfl ?_
    refine x_iconst (v := 1) hM d_Cl_add_46 (by decide) ?_
    refine x_iadd hM d_Cl_add_47 ?_
    obtain ⟨ρ4, eρ4⟩ : ∃ z : Rs, z = pI ρ3 (10, i0, j0) 0 ((iR ρ3 (10, i0, j0) 0) + 1) := ⟨_, rfl⟩
    replace F := F ρ4 eρ4
    refine y_puti hG hM V ck_Cl 0 (Nat.le_of_ble_eq_true rfl) rfl rfl w_43 rfl d_Cl_add_48 rfl (10, i0, j0) (ok_cl hc0) rfl (fun h V => ?_)
    rw [← eρ4] at V
    clear eρ4
    refine x_aload_n hM d_Cl_add_51 rfl 0 rfl ?_
    refine y_geti hG hM V ck_Cl 0 (Nat.le_of_ble_eq_true rfl) rfl rfl w_43 rfl d_Cl_add_52 (10, i0, j0) (ok_cl hc0) rfl ?_
    exact x_ireturn hM d_Cl_add_55 rfl (y_end V hSt (F _))
  · replace F := F.2 q8
    refine x_bipush (v := (-3)) hM d_Cl_add_8 (by decide) ?_
    exact x_ireturn hM d_Cl_add_10 rfl (y_end V hSt (F _))
set_option maxRecDepth 100000 in
set_option maxHeartbeats 4000000 in
theorem T_Cl_hold_0 {G : Gc} {M : Mc} {Q : State → Prop} {ad0 : Ro → Nat} {K : (Ro → Nat) → Option Value → Rs → Prop} (hG : gok G) (hM : mok G M r_Cl_hold Q (KV G [] ad0 K)) (i0 j0 : Nat) (hc0 : okC i0 j0) (v1 : Int32) (ρ : Rs) (F : Y G [] ad0 M Q 2 (fun ad => [(0, .ref (ad (10, i0, j0))), (1, .int v1), (2, .int 0)]) (fun ad => []) ρ) : Y G [] ad0 M Q 0 (fun ad => [(0, .ref (ad (10, i0, j0))), (1, .int v1)]) (fun ad => []) ρ := by
  intro ad h hSt V
  show X G M Q 0 [(0, .ref (ad (10, i0, j0))), (1, .int v1)] [] h
  refine x_iconst (v := 0) hM d_Cl_hold_0 (by decide) ?_
  refine x_istore_n (lv2 := [(2, .int 0), (0, .ref (ad (10, i0, j0))), (1, .int v1)]) hM d_Cl_hold_1 rfl (Nat.le_of_ble_eq_true rfl) rfl ?_
  refine x_sub [1, 2, 0] rfl ?_
  exact F _ _ hSt V
set_option maxRecDepth 100000 in
set_option maxHeartbeats 4000000 in
theorem T_Cl_hold_2 {G : Gc} {M : Mc} {Q : State → Prop} {ad0 : Ro → Nat} {K : (Ro → Nat) → Option Value → Rs → Prop} (hG : gok G) (hM : mok G M r_Cl_hold Q (KV G [] ad0 K)) (i0 j0 : Nat) (hc0 : okC i0 j0) (v1 : Int32) (v2 : Int32) (ρ : Rs) (F : ((iR ρ (10, i0, j0) 0) ≤ v2 → (∀ ad, K ad (some (.int 1)) ρ)) ∧ (¬ (iR ρ (10, i0, j0) 0) ≤ v2 → (vp_in v2 4 ∧ (semV G r_WP_valueIn [] (fun ad => [.int v1, .int (iR ρ (11, i0, j0) (Int32.toNatClampNeg v2))]) ρ (fun ad u3 ρ2 => ∃ x5 : Int32, u3 = some (.int x5) ∧ (vp_in v2 4 ∧ (((iR ρ2 (12, i0, j0) (Int32.toNatClampNeg v2)) = 0 → (vp_in v2 4 ∧ (∀ z38 : Int32, z38 = (if x5 = (iR ρ2 (13, i0, j0) (Int32.toNatClampNeg v2)) then 1 else 0) → ((z38 = 0 → (∀ ad, K ad (some (.int 0)) ρ2)) ∧ (¬ z38 = 0 → (Y G [] ad0 M Q 2 (fun ad => [(0, .ref (ad (10, i0, j0))), (1, .int v1), (2, .int (v2 + 1))]) (fun ad => []) ρ2)))))) ∧ (¬ (iR ρ2 (12, i0, j0) (Int32.toNatClampNeg v2)) = 0 → (vp_in v2 4 ∧ (((iR ρ2 (12, i0, j0) (Int32.toNatClampNeg v2)) = 1 → (vp_in v2 4 ∧ (∀ z33 : Int32, z33 = (if x5 = (iR ρ2 (13, i0, j0) (Int32.toNatClampNeg v2)) then 0 else 1) → ((z33 = 0 → (∀ ad, K ad (some (.int 0)) ρ2)) ∧ (¬ z33 = 0 → (Y G [] ad0 M Q 2 (fun ad => [(0, .ref (ad (10, i0, j0))), (1, .int v1), (2, .int (v2 + 1))]) (fun ad => []) ρ2)))))) ∧ (¬ (iR ρ2 (12, i0, j0) (Int32.toNatClampNeg v2)) = 1 → (vp_in v2 4 ∧ (((iR ρ2 (12, i0, j0) (Int32.toNatClampNeg v2)) = 2 → (vp_in v2 4 ∧ (semV G r_WP_valueIn [] (fun ad => [.int v1, .int (iR ρ2 (13, i0, j0) (Int32.toNatClampNeg v2))]) ρ2 (fun ad u24 ρ23 => ∃ x26 : Int32, u24 = some (.int x26) ∧ (∀ z27 : Int32, z27 = (if x5 = x26 then 1 else 0) → ((z27 = 0 → (∀ ad, K ad (some (.int 0)) ρ23)) ∧ (¬ z27 = 0 → (Y G [] ad0 M Q 2 (fun ad => [(0, .ref (ad (10, i0, j0))), (1, .int v1), (2, .int (v2 + 1))]) (fun ad => []) ρ23)))))))) ∧ (¬ (iR ρ2 (12, i0, j0) (Int32.toNatClampNeg v2)) = 2 → (vp_in v2 4 ∧ (∀ z19 : Int32, z19 = (if (iR ρ2 (13, i0, j0) (Int32.toNatClampNeg v2)) ≤ x5 then 0 else 1) → ((z19 = 0 → (∀ ad, K ad (some (.int 0)) ρ2)) ∧ (¬ z19 = 0 → (Y G [] ad0 M Q 2 (fun ad => [(0, .ref (ad (10, i0, j0))), (1, .int v1), (2, .int (v2 + 1))]) (fun ad => []) ρ2))))))))))))))))))) : Y G [] ad0 M Q 2 (fun ad => [(0, .ref (ad (10, i0, j0))), (1, .int v1), (2, .int v2)]) (fun ad => []) ρ := by
  intro ad h hSt V
  show X G M Q 2 [(0, .ref (ad (10, i0, j0))), (1, .int v1), (2, .int v2)] [] h
  refine x_iload_n hM d_Cl_hold_2 rfl 2 rfl ?_
  refine x_aload_n hM d_Cl_hold_3 rfl 0 rfl ?_
  refine y_geti hG hM V ck_Cl 0 (Nat.le_of_ble_eq_true rfl) rfl rfl w_43 rfl d_Cl_hold_4 (10, i0, j0) (ok_cl hc0) rfl ?_
  refine x_icmp_ge (tgt := 144) hM d_Cl_hold_7 (by decide) (fun q43 => ?_) (fun q43 => ?_)
  · replace F := F.1 q43
    refine x_iconst (v := 1) hM d_Cl_hold_144 (by decide) ?_
    exact x_zreturn hM d_Cl_hold_145 rfl (Or.inr rfl) (y_end V hSt (F _))
  · replace F := F.2 q43
    refine x_iload_n hM d_Cl_hold_10 rfl 1 rfl ?_
    refine x_aload_n hM d_Cl_hold_11 rfl 0 rfl ?_
    refine y_getr hG hM V ck_Cl 1 (Nat.le_of_ble_eq_true rfl) rfl rfl w_48 rfl d_Cl_hold_12 (10, i0, j0) (11, i0, j0) (ok_cl hc0) rfl rfl ?_
    refine x_iload_n hM d_Cl_hold_15 rfl 2 rfl ?_
    obtain ⟨c1, F⟩ := F
    refine y_iaload hG hM V d_Cl_hold_16 (11, i0, j0) (ok_c1 hc0) rfl (by rw [vlen V (r := (11, i0, j0)) (ok_c1 hc0) rfl]; exact c1) ?_
    refine x_callSN hG hM (r' := r_WP_valueIn) [.int v1, .int (iR ρ (11, i0, j0) (Int32.toNatClampNeg v2))] rfl yk_WP_valueIn ⟨Nat.le_of_ble_eq_true rfl, Nat.le_of_ble_eq_true rfl⟩ w_557 w_558 rfl rfl (Nat.le_of_ble_eq_true rfl) d_Cl_hold_17 (sem_mono (F _ _ V) ?_)
    intro u3 h F
    obtain ⟨ad42, ρ2, V, hs4, F⟩ := F
    obtain ⟨x5, rfl, F⟩ := F
    have hs4 := (St_eq hs4).symm
    subst hs4
    refine x_istore_n (lv2 := [(3, .int x5), (0, .ref (ad (10, i0, j0))), (1, .int v1), (2, .int v2)]) hM d_Cl_hold_20 rfl (Nat.le_of_ble_eq_true rfl) rfl ?_
    refine x_aload_n hM d_Cl_hold_21 rfl 1 rfl ?_
    refine y_getr hG hM V ck_Cl 2 (Nat.le_of_ble_eq_true rfl) rfl rfl w_50 rfl d_Cl_hold_22 (10, i0, j0) (12, i0, j0) (ok_cl hc0) rfl rfl ?_
    refine x_iload_n hM d_Cl_hold_25 rfl 3 rfl ?_
    obtain ⟨c6, F⟩ := F
    refine y_iaload hG hM V d_Cl_hold_26 (12, i0, j0) (ok_c2 hc0) rfl (by rw [vlen V (r := (12, i0, j0)) (ok_c2 hc0) rfl]; exact c6) ?_
    refine x_if_ne (tgt := 50) hM d_Cl_hold_27 (by decide) (fun q41 => ?_) (fun q41 => ?_)
    · replace F := F.2 q41
      refine x_aload_n hM d_Cl_hold_50 rfl 1 rfl ?_
      refine y_getr hG hM V ck_Cl 2 (Nat.le_of_ble_eq_true rfl) rfl rfl w_50 rfl d_Cl_hold_51 (10, i0, j0) (12, i0, j0) (ok_cl hc0) rfl rfl ?_
      refine x_iload_n hM d_Cl_hold_54 rfl 3 rfl ?_
      obtain ⟨c11, F⟩ := F
      refine y_iaload hG hM V d_Cl_hold_55 (12, i0, j0) (ok_c2 hc0) rfl (by rw [vlen V (r := (12, i0, j0)) (ok_c2 hc0) rfl]; exact c11) ?_
      refine x_iconst (v := 1) hM d_Cl_hold_56 (by decide) ?_
      refine x_icmp_ne (tgt := 80) hM d_Cl_hold_57 (by decide) (fun q36 => ?_) (fun q36 => ?_)
      · replace F := F.2 q36
        refine x_aload_n hM d_Cl_hold_80 rfl 1 rfl ?_
        refine y_getr hG hM V ck_Cl 2 (Nat.le_of_ble_eq_true rfl) rfl rfl w_50 rfl d_Cl_hold_81 (10, i0, j0) (12, i0, j0) (ok_cl hc0) rfl rfl ?_
        refine x_iload_n hM d_Cl_hold_84 rfl 3 rfl ?_
        obtain ⟨c15, F⟩ := F
        refine y_iaload hG hM V d_Cl_hold_85 (12, i0, j0) (ok_c2 hc0) rfl (by rw [vlen V (r := (12, i0, j0)) (ok_c2 hc0) rfl]; exact c15) ?_
        refine x_iconst (v := 2) hM d_Cl_hold_86 (by decide) ?_
        refine x_icmp_ne (tgt := 114) hM d_Cl_hold_87 (by decide) (fun q31 => ?_) (fun q31 => ?_)
        · replace F := F.2 q31
          refine x_iload_n hM d_Cl_hold_114 rfl 0 rfl ?_
          refine x_aload_n hM d_Cl_hold_115 rfl 1 rfl ?_
          refine y_getr hG hM V ck_Cl 3 (Nat.le_of_ble_eq_true rfl) rfl rfl w_52 rfl d_Cl_hold_116 (10, i0, j0) (13, i0, j0) (ok_cl hc0) rfl rfl ?_
          refine x_iload_n hM d_Cl_hold_119 rfl 3 rfl ?_
          obtain ⟨c18, F⟩ := F
          refine y_iaload hG hM V d_Cl_hold_120 (13, i0, j0) (ok_c3 hc0) rfl (by rw [vlen V (r := (13, i0, j0)) (ok_c3 hc0) rfl]; exact c18) ?_
          have JJ : ∀ (z19 : Int32) (ez19 : z19 = (if (iR ρ2 (13, i0, j0) (Int32.toNatClampNeg v2)) ≤ x5 then 0 else 1)), X G M Q 129 [(0, .ref (ad (10, i0, j0))), (1, .int v1), (2, .int v2)] [.int z19] h := by
            intro z19 ez19
            replace F := F _ ez19
            refine x_istore (lv2 := [(4, .int z19), (0, .ref (ad (10, i0, j0))), (1, .int v1), (2, .int v2)]) hM d_Cl_hold_129 (Nat.le_of_ble_eq_true rfl) rfl ?_
            refine x_iload hM d_Cl_hold_131 0 rfl ?_
            refine x_if_ne (tgt := 138) hM d_Cl_hold_133 (by decide) (fun q20 => ?_) (fun q20 => ?_)
            · replace F := F.2 q20
              refine x_iinc (v := (v2 + 1)) (lv2 := [(2, .int (v2 + 1)), (4, .int z19), (0, .ref (ad (10, i0, j0))), (1, .int v1)]) hM d_Cl_hold_138 (j := 3) rfl rfl (Nat.le_of_ble_eq_true rfl) rfl ?_
              refine x_goto (tgt := 2) hM d_Cl_hold_141 (by decide) ?_
              refine x_sub [2, 3, 0] rfl ?_
              exact F _ _ hSt V
            · replace F := F.1 q20
              refine x_iconst (v := 0) hM d_Cl_hold_136 (by decide) ?_
              exact x_zreturn hM d_Cl_hold_137 rfl (Or.inl rfl) (y_end V hSt (F _))
          refine x_icmp_ge (tgt := 128) hM d_Cl_hold_121 (by decide) (fun q21 => ?_) (fun q21 => ?_)
          · refine x_iconst (v := 0) hM d_Cl_hold_128 (by decide) ?_
            refine x_sub [1, 2, 3] rfl ?_
            exact JJ _ (Eq.symm (if_pos q21))
          · refine x_iconst (v := 1) hM d_Cl_hold_124 (by decide) ?_
            refine x_goto (tgt := 129) hM d_Cl_hold_125 (by decide) ?_
            refine x_sub [1, 2, 3] rfl ?_
            exact JJ _ (Eq.symm (if_neg q21))
        · replace F := F.1 q31
          refine x_iload_n hM d_Cl_hold_90 rfl 0 rfl ?_
          refine x_iload_n hM d_Cl_hold_91 rfl 2 rfl ?_
          refine x_aload_n hM d_Cl_hold_92 rfl 1 rfl ?_
          refine y_getr hG hM V ck_Cl 3 (Nat.le_of_ble_eq_true rfl) rfl rfl w_52 rfl d_Cl_hold_93 (10, i0, j0) (13, i0, j0) (ok_cl hc0) rfl rfl ?_
          refine x_iload_n hM d_Cl_hold_96 rfl 3 rfl ?_
          obtain ⟨c22, F⟩ := F
          refine y_iaload hG hM V d_Cl_hold_97 (13, i0, j0) (ok_c3 hc0) rfl (by rw [vlen V (r := (13, i0, j0)) (ok_c3 hc0) rfl]; exact c22) ?_
          refine x_callSN hG hM (r' := r_WP_valueIn) [.int v1, .int (iR ρ2 (13, i0, j0) (Int32.toNatClampNeg v2))] rfl yk_WP_valueIn ⟨Nat.le_of_ble_eq_true rfl, Nat.le_of_ble_eq_true rfl⟩ w_557 w_558 rfl rfl (Nat.le_of_ble_eq_true rfl) d_Cl_hold_98 (sem_mono (F _ _ V) ?_)
          intro u24 h F
          obtain ⟨ad30, ρ23, V, hs25, F⟩ := F
          obtain ⟨x26, rfl, F⟩ := F
          have hs25 := (St_eq hs25).symm
          subst hs25
          have JJ : ∀ (z27 : Int32) (ez27 : z27 = (if x5 = x26 then 1 else 0)), X G M Q 109 [(0, .ref (ad (10, i0, j0))), (1, .int v1), (2, .int v2)] [.int z27] h := by
            intro z27 ez27
            replace F := F _ ez27
            refine x_istore (lv2 := [(4, .int z27), (0, .ref (ad (10, i0, j0))), (1, .int v1), (2, .int v2)]) hM d_Cl_hold_109 (Nat.le_of_ble_eq_true rfl) rfl ?_
            refine x_goto (tgt := 131) hM d_Cl_hold_111 (by decide) ?_
            refine x_iload hM d_Cl_hold_131 0 rfl ?_
            refine x_if_ne (tgt := 138) hM d_Cl_hold_133 (by decide) (fun q28 => ?_) (fun q28 => ?_)
            · replace F := F.2 q28
              refine x_iinc (v := (v2 + 1)) (lv2 := [(2, .int (v2 + 1)), (4, .int z27), (0, .ref (ad (10, i0, j0))), (1, .int v1)]) hM d_Cl_hold_138 (j := 3) rfl rfl (Nat.le_of_ble_eq_true rfl) rfl ?_
              refine x_goto (tgt := 2) hM d_Cl_hold_141 (by decide) ?_
              refine x_sub [2, 3, 0] rfl ?_
              exact F _ _ hSt V
            · replace F := F.1 q28
              refine x_iconst (v := 0) hM d_Cl_hold_136 (by decide) ?_
              exact x_zreturn hM d_Cl_hold_137 rfl (Or.inl rfl) (y_end V hSt (F _))
          refine x_icmp_ne (tgt := 108) hM d_Cl_hold_101 (by decide) (fun q29 => ?_) (fun q29 => ?_)
          · refine x_iconst (v := 0) hM d_Cl_hold_108 (by decide) ?_
            refine x_sub [1, 2, 3] rfl ?_
            exact JJ _ (Eq.symm (if_neg q29))
          · refine x_iconst (v := 1) hM d_Cl_hold_104 (by decide) ?_
            refine x_goto (tgt := 109) hM d_Cl_hold_105 (by decide) ?_
            refine x_sub [1, 2, 3] rfl ?_
            exact JJ _ (Eq.symm (if_pos q29))
      · replace F := F.1 q36
        refine x_iload_n hM d_Cl_hold_60 rfl 0 rfl ?_
        refine x_aload_n hM d_Cl_hold_61 rfl 1 rfl ?_
        refine y_getr hG hM V ck_Cl 3 (Nat.le_of_ble_eq_true rfl) rfl rfl w_52 rfl d_Cl_hold_62 (10, i0, j0) (13, i0, j0) (ok_cl hc0) rfl rfl ?_
        refine x_iload_n hM d_Cl_hold_65 rfl 3 rfl ?_
        obtain ⟨c32, F⟩ := F
        refine y_iaload hG hM V d_Cl_hold_66 (13, i0, j0) (ok_c3 hc0) rfl (by rw [vlen V (r := (13, i0, j0)) (ok_c3 hc0) rfl]; exact c32) ?_
        have JJ : ∀ (z33 : Int32) (ez33 : z33 = (if x5 = (iR ρ2 (13, i0, j0) (Int32.toNatClampNeg v2)) then 0 else 1)), X G M Q 75 [(0, .ref (ad (10, i0, j0))), (1, .int v1), (2, .int v2)] [.int z33] h := by
          intro z33 ez33
          replace F := F _ ez33
          refine x_istore (lv2 := [(4, .int z33), (0, .ref (ad (10, i0, j0))), (1, .int v1), (2, .int v2)]) hM d_Cl_hold_75 (Nat.le_of_ble_eq_true rfl) rfl ?_
          refine x_goto (tgt := 131) hM d_Cl_hold_77 (by decide) ?_
          refine x_iload hM d_Cl_hold_131 0 rfl ?_
          refine x_if_ne (tgt := 138) hM d_Cl_hold_133 (by decide) (fun q34 => ?_) (fun q34 => ?_)
          · replace F := F.2 q34
            refine x_iinc (v := (v2 + 1)) (lv2 := [(2, .int (v2 + 1)), (4, .int z33), (0, .ref (ad (10, i0, j0))), (1, .int v1)]) hM d_Cl_hold_138 (j := 3) rfl rfl (Nat.le_of_ble_eq_true rfl) rfl ?_
            refine x_goto (tgt := 2) hM d_Cl_hold_141 (by decide) ?_
            refine x_sub [2, 3, 0] rfl ?_
            exact F _ _ hSt V
          · replace F := F.1 q34
            refine x_iconst (v := 0) hM d_Cl_hold_136 (by decide) ?_
            exact x_zreturn hM d_Cl_hold_137 rfl (Or.inl rfl) (y_end V hSt (F _))
        refine x_icmp_eq (tgt := 74) hM d_Cl_hold_67 (by decide) (fun q35 => ?_) (fun q35 => ?_)
        · refine x_iconst (v := 0) hM d_Cl_hold_74 (by decide) ?_
          refine x_sub [1, 2, 3] rfl ?_
          exact JJ _ (Eq.symm (if_pos q35))
        · refine x_iconst (v := 1) hM d_Cl_hold_70 (by decide) ?_
          refine x_goto (tgt := 75) hM d_Cl_hold_71 (by decide) ?_
          refine x_sub [1, 2, 3] rfl ?_
          exact JJ _ (Eq.symm (if_neg q35))
    · replace F := F.1 q41
      refine x_iload_n hM d_Cl_hold_30 rfl 0 rfl ?_
      refine x_aload_n hM d_Cl_hold_31 rfl 1 rfl ?_
      refine y_getr hG hM V ck_Cl 3 (Nat.le_of_ble_eq_true rfl) rfl rfl w_52 rfl d_Cl_hold_32 (10, i0, j0) (13, i0, j0) (ok_cl hc0) rfl rfl ?_
      refine x_iload_n hM d_Cl_hold_35 rfl 3 rfl ?_
      obtain ⟨c37, F⟩ := F
      refine y_iaload hG hM V d_Cl_hold_36 (13, i0, j0) (ok_c3 hc0) rfl (by rw [vlen V (r := (13, i0, j0)) (ok_c3 hc0) rfl]; exact c37) ?_
      have JJ : ∀ (z38 : Int32) (ez38 : z38 = (if x5 = (iR ρ2 (13, i0, j0) (Int32.toNatClampNeg v2)) then 1 else 0)), X G M Q 45 [(0, .ref (ad (10, i0, j0))), (1, .int v1), (2, .int v2)] [.int z38] h := by
        intro z38 ez38
        replace F := F _ ez38
        refine x_istore (lv2 := [(4, .int z38), (0, .ref (ad (10, i0, j0))), (1, .int v1), (2, .int v2)]) hM d_Cl_hold_45 (Nat.le_of_ble_eq_true rfl) rfl ?_
        refine x_goto (tgt := 131) hM d_Cl_hold_47 (by decide) ?_
        refine x_iload hM d_Cl_hold_131 0 rfl ?_
        refine x_if_ne (tgt := 138) hM d_Cl_hold_133 (by decide) (fun q39 => ?_) (fun q39 => ?_)
        · replace F := F.2 q39
          refine x_iinc (v := (v2 + 1)) (lv2 := [(2, .int (v2 + 1)), (4, .int z38), (0, .ref (ad (10, i0, j0))), (1, .int v1)]) hM d_Cl_hold_138 (j := 3) rfl rfl (Nat.le_of_ble_eq_true rfl) rfl ?_
          refine x_goto (tgt := 2) hM d_Cl_hold_141 (by decide) ?_
          refine x_sub [2, 3, 0] rfl ?_
          exact F _ _ hSt V
        · replace F := F.1 q39
          refine x_iconst (v := 0) hM d_Cl_hold_136 (by decide) ?_
          exact x_zreturn hM d_Cl_hold_137 rfl (Or.inl rfl) (y_end V hSt (F _))
      refine x_icmp_ne (tgt := 44) hM d_Cl_hold_37 (by decide) (fun q40 => ?_) (fun q40 => ?_)
      · refine x_iconst (v := 0) hM d_Cl_hold_44 (by decide) ?_
        refine x_sub [1, 2, 3] rfl ?_
        exact JJ _ (Eq.symm (if_neg q40))
      · refine x_iconst (v := 1) hM d_Cl_hold_40 (by decide) ?_
        refine x_goto (tgt := 45) hM d_Cl_hold_41 (by decide) ?_
        refine x_sub [1, 2, 3] rfl ?_
        exact JJ _ (Eq.symm (if_pos q40))
set_option maxRecDepth 100000 in
set_option maxHeartbeats 4000000 in
theorem T_Cl_isLastOfItsThing_0 {G : Gc} {M : Mc} {Q : State → Prop} {ad0 : Ro → Nat} {K : (Ro → Nat) → Option Value → Rs → Prop} (hG : gok G) (hM : mok G M r_Cl_isLastOfItsThing Q (KV G [] ad0 K)) (i0 j0 : Nat) (hc0 : okC i0 j0) (v1 : Int32) (ρ : Rs) (F : Y G [] ad0 M Q 4 (fun ad => [(0, .ref (ad (10, i0, j0))), (1, .int v1), (2, .int (v1 + 1))]) (fun ad => []) ρ) : Y G [] ad0 M Q 0 (fun ad => [(0, .ref (ad (10, i0, j0))), (1, .int v1)]) (fun ad => []) ρ := by
  intro ad h hSt V
  show X G M Q 0 [(0, .ref (ad (10, i0, j0))), (1, .int v1)] [] h
  refine x_iload_n hM d_Cl_isLastOfItsThing_0 rfl 1 rfl ?_
  refine x_iconst (v := 1) hM d_Cl_isLastOfItsThing_1 (by decide) ?_
  refine x_iadd hM d_Cl_isLastOfItsThing_2 ?_
  refine x_istore_n (lv2 := [(2, .int (v1 + 1)), (0, .ref (ad (10, i0, j0))), (1, .int v1)]) hM d_Cl_isLastOfItsThing_3 rfl (Nat.le_of_ble_eq_true rfl) rfl ?_
  refine x_sub [1, 2, 0] rfl ?_
  exact F _ _ hSt V
set_option maxRecDepth 100000 in
set_option maxHeartbeats 4000000 in
theorem T_Cl_isLastOfItsThing_4 {G : Gc} {M : Mc} {Q : State → Prop} {ad0 : Ro → Nat} {K : (Ro → Nat) → Option Value → Rs → Prop} (hG : gok G) (hM : mok G M r_Cl_isLastOfItsThing Q (KV G [] ad0 K)) (i0 j0 : Nat) (hc0 : okC i0 j0) (v1 : Int32) (v2 : Int32) (ρ : Rs) (F : ((iR ρ (10, i0, j0) 0) ≤ v2 → (∀ ad, K ad (some (.int 1)) ρ)) ∧ (¬ (iR ρ (10, i0, j0) 0) ≤ v2 → (vp_in v2 4 ∧ (vp_in v1 4 ∧ (((iR ρ (11, i0, j0) (Int32.toNatClampNeg v2)) = (iR ρ (11, i0, j0) (Int32.toNatClampNeg v1)) → (∀ ad, K ad (some (.int 0)) ρ)) ∧ (¬ (iR ρ (11, i0, j0) (Int32.toNatClampNeg v2)) = (iR ρ (11, i0, j0) (Int32.toNatClampNeg v1)) → (Y G [] ad0 M Q 4 (fun ad => [(0, .ref (ad (10, i0, j0))), (1, .int v1), (2, .int (v2 + 1))]) (fun ad => []) ρ))))))) : Y G [] ad0 M Q 4 (fun ad => [(0, .ref (ad (10, i0, j0))), (1, .int v1), (2, .int v2)]) (fun ad => []) ρ := by
  intro ad h hSt V
  show X G M Q 4 [(0, .ref (ad (10, i0, j0))), (1, .int v1), (2, .int v2)] [] h
  refine x_iload_n hM d_Cl_isLastOfItsThing_4 rfl 2 rfl ?_
  refine x_aload_n hM d_Cl_isLastOfItsThing_5 rfl 0 rfl ?_
  refine y_geti hG hM V ck_Cl 0 (Nat.le_of_ble_eq_true rfl) rfl rfl w_43 rfl d_Cl_isLastOfItsThing_6 (10, i0, j0) (ok_cl hc0) rfl ?_
  refine x_icmp_ge (tgt := 35) hM d_Cl_isLastOfItsThing_9 (by decide) (fun q4 => ?_) (fun q4 => ?_)
  · replace F := F.1 q4
    refine x_iconst (v := 1) hM d_Cl_isLastOfItsThing_35 (by decide) ?_
    exact x_zreturn hM d_Cl_isLastOfItsThing_36 rfl (Or.inr rfl) (y_end V hSt (F _))
  · replace F := F.2 q4
    refine x_aload_n hM d_Cl_isLastOfItsThing_12 rfl 0 rfl ?_
    refine y_getr hG hM V ck_Cl 1 (Nat.le_of_ble_eq_true rfl) rfl rfl w_48 rfl d_Cl_isLastOfItsThing_13 (10, i0, j0) (11, i0, j0) (ok_cl hc0) rfl rfl ?_
    refine x_iload_n hM d_Cl_isLastOfItsThing_16 rfl 2 rfl ?_
    obtain ⟨c1, F⟩ := F
    refine y_iaload hG hM V d_Cl_isLastOfItsThing_17 (11, i0, j0) (ok_c1 hc0) rfl (by rw [vlen V (r := (11, i0, j0)) (ok_c1 hc0) rfl]; exact c1) ?_
    refine x_aload_n hM d_Cl_isLastOfItsThing_18 rfl 0 rfl ?_
    refine y_getr hG hM V ck_Cl 1 (Nat.le_of_ble_eq_true rfl) rfl rfl w_48 rfl d_Cl_isLastOfItsThing_19 (10, i0, j0) (11, i0, j0) (ok_cl hc0) rfl rfl ?_
    refine x_iload_n hM d_Cl_isLastOfItsThing_22 rfl 1 rfl ?_
    obtain ⟨c2, F⟩ := F
    refine y_iaload hG hM V d_Cl_isLastOfItsThing_23 (11, i0, j0) (ok_c1 hc0) rfl (by rw [vlen V (r := (11, i0, j0)) (ok_c1 hc0) rfl]; exact c2) ?_
    refine x_icmp_ne (tgt := 29) hM d_Cl_isLastOfItsThing_24 (by decide) (fun q3 => ?_) (fun q3 => ?_)
    · replace F := F.2 q3
      refine x_iinc (v := (v2 + 1)) (lv2 := [(2, .int (v2 + 1)), (0, .ref (ad (10, i0, j0))), (1, .int v1)]) hM d_Cl_isLastOfItsThing_29 (j := 2) rfl rfl (Nat.le_of_ble_eq_true rfl) rfl ?_
      refine x_goto (tgt := 4) hM d_Cl_isLastOfItsThing_32 (by decide) ?_
      refine x_sub [1, 2, 0] rfl ?_
      exact F _ _ hSt V
    · replace F := F.1 q3
      refine x_iconst (v := 0) hM d_Cl_isLastOfItsThing_27 (by decide) ?_
      exact x_zreturn hM d_Cl_isLastOfItsThing_28 rfl (Or.inl rfl) (y_end V hSt (F _))
