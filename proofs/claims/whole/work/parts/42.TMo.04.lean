set_option maxRecDepth 100000 in
set_option maxHeartbeats 4000000 in
theorem T_Mo_surely_0 {G : Gc} {M : Mc} {Q : State → Prop} {ad0 : Ro → Nat} {K : (Ro → Nat) → Option Value → Rs → Prop} (hG : gok G) (hM : mok G M r_Mo_surely Q (KV G [] ad0 K))  (ρ : Rs) (F : Y G [] ad0 M Q 2 (fun ad => [(0, .ref (ad (40, 0, 0))), (1, .int 0)]) (fun ad => []) ρ) : Y G [] ad0 M Q 0 (fun ad => [(0, .ref (ad (40, 0, 0)))]) (fun ad => []) ρ := by
  intro ad h hSt V
  show X G M Q 0 [(0, .ref (ad (40, 0, 0)))] [] h
  refine x_iconst (v := 0) hM d_Mo_surely_0 (by decide) ?_
  refine x_istore_n (lv2 := [(1, .int 0), (0, .ref (ad (40, 0, 0)))]) hM d_Mo_surely_1 rfl (Nat.le_of_ble_eq_true rfl) rfl ?_
  refine x_sub [1, 0] rfl ?_
  exact F _ _ hSt V
set_option maxRecDepth 100000 in
set_option maxHeartbeats 4000000 in
theorem T_Mo_surely_2 {G : Gc} {M : Mc} {Q : State → Prop} {ad0 : Ro → Nat} {K : (Ro → Nat) → Option Value → Rs → Prop} (hG : gok G) (hM : mok G M r_Mo_surely Q (KV G [] ad0 K)) (v1 : Int32) (ρ : Rs) (F : ((iR ρ (40, 0, 0) 13) ≤ v1 → (semV G r_Mo_aims [] (fun ad => [.ref (ad (40, 0, 0)), .ref (ad (41, 21, 0))]) ρ (fun ad u2 ρ1 => ∃ x4 : Int32, u2 = some (.int x4) ∧ (Y G [] ad0 M Q 60 (fun ad => [(0, .ref (ad (40, 0, 0))), (1, .int x4), (2, .int 0)]) (fun ad => []) ρ1)))) ∧ (¬ (iR ρ (40, 0, 0) 13) ≤ v1 → (Y G [] ad0 M Q 12 (fun ad => [(0, .ref (ad (40, 0, 0))), (1, .int v1), (2, .int 0)]) (fun ad => []) ρ))) : Y G [] ad0 M Q 2 (fun ad => [(0, .ref (ad (40, 0, 0))), (1, .int v1)]) (fun ad => []) ρ := by
  intro ad h hSt V
  show X G M Q 2 [(0, .ref (ad (40, 0, 0))), (1, .int v1)] [] h
  refine x_iload_n hM d_Mo_surely_2 rfl 1 rfl ?_
  refine x_aload_n hM d_Mo_surely_3 rfl 0 rfl ?_
  refine y_geti hG hM V ck_Mo 13 (Nat.le_of_ble_eq_true rfl) rfl rfl w_910 rfl d_Mo_surely_4 (40, 0, 0) rfl rfl ?_
  refine x_icmp_ge (tgt := 49) hM d_Mo_surely_7 (by decide) (fun q6 => ?_) (fun q6 => ?_)
  · replace F := F.1 q6
    refine x_aload_n hM d_Mo_surely_49 rfl 0 rfl ?_
    refine x_aload_n hM d_Mo_surely_50 rfl 0 rfl ?_
    refine y_getr hG hM V ck_Mo 21 (Nat.le_of_ble_eq_true rfl) rfl rfl w_918 rfl d_Mo_surely_51 (40, 0, 0) (41, 21, 0) rfl rfl rfl ?_
    refine x_callV hG hM (r' := r_Mo_aims) (ci := 11) [.ref (ad (41, 21, 0))] rfl rfl (Nat.le_of_ble_eq_true rfl) yk_Mo_aims ⟨Nat.le_of_ble_eq_true rfl, Nat.le_of_ble_eq_true rfl⟩ w_1124 w_1126 ws_Mo_aims rfl rfl (Nat.le_of_ble_eq_true rfl) d_Mo_surely_54 (by rw [vT V rfl]; rfl) (sem_mono (F _ _ V) ?_)
    intro u2 h F
    obtain ⟨ad5, ρ1, V, hs3, F⟩ := F
    obtain ⟨x4, rfl, F⟩ := F
    have hs3 := (St_eq hs3).symm
    subst hs3
    refine x_istore_n (lv2 := [(1, .int x4), (0, .ref (ad (40, 0, 0)))]) hM d_Mo_surely_57 rfl (Nat.le_of_ble_eq_true rfl) rfl ?_
    refine x_iconst (v := 0) hM d_Mo_surely_58 (by decide) ?_
    refine x_istore_n (lv2 := [(2, .int 0), (1, .int x4), (0, .ref (ad (40, 0, 0)))]) hM d_Mo_surely_59 rfl (Nat.le_of_ble_eq_true rfl) rfl ?_
    refine x_sub [2, 1, 0] rfl ?_
    exact F _ _ hSt V
  · replace F := F.2 q6
    refine x_iconst (v := 0) hM d_Mo_surely_10 (by decide) ?_
    refine x_istore_n (lv2 := [(2, .int 0), (0, .ref (ad (40, 0, 0))), (1, .int v1)]) hM d_Mo_surely_11 rfl (Nat.le_of_ble_eq_true rfl) rfl ?_
    refine x_sub [1, 2, 0] rfl ?_
    exact F _ _ hSt V
set_option maxRecDepth 100000 in
set_option maxHeartbeats 4000000 in
theorem T_Mo_surely_12 {G : Gc} {M : Mc} {Q : State → Prop} {ad0 : Ro → Nat} {K : (Ro → Nat) → Option Value → Rs → Prop} (hG : gok G) (hM : mok G M r_Mo_surely Q (KV G [] ad0 K)) (v1 : Int32) (v2 : Int32) (ρ : Rs) (F : ((iR ρ (40, 0, 0) 3) ≤ v2 → (Y G [] ad0 M Q 2 (fun ad => [(0, .ref (ad (40, 0, 0))), (1, .int (v1 + 1))]) (fun ad => []) ρ)) ∧ (¬ (iR ρ (40, 0, 0) 3) ≤ v2 → (vp_in v2 12 ∧ (vp_in ((12 * v1) + v2) 49152 ∧ (∀ ρ3 : Rs, ρ3 = pI ρ (41, 24, 0) (Int32.toNatClampNeg ((12 * v1) + v2)) (iR ρ (41, 4, 0) (Int32.toNatClampNeg v2)) → (Y G [] ad0 M Q 12 (fun ad => [(0, .ref (ad (40, 0, 0))), (1, .int v1), (2, .int (v2 + 1))]) (fun ad => []) ρ3)))))) : Y G [] ad0 M Q 12 (fun ad => [(0, .ref (ad (40, 0, 0))), (1, .int v1), (2, .int v2)]) (fun ad => []) ρ := by
  intro ad h hSt V
  show X G M Q 12 [(0, .ref (ad (40, 0, 0))), (1, .int v1), (2, .int v2)] [] h
  refine x_iload_n hM d_Mo_surely_12 rfl 2 rfl ?_
  refine x_aload_n hM d_Mo_surely_13 rfl 0 rfl ?_
  refine y_geti hG hM V ck_Mo 3 (Nat.le_of_ble_eq_true rfl) rfl rfl w_900 rfl d_Mo_surely_14 (40, 0, 0) rfl rfl ?_
  refine x_icmp_ge (tgt := 43) hM d_Mo_surely_17 (by decide) (fun q5 => ?_) (fun q5 => ?_)
  · replace F := F.1 q5
    refine x_iinc (v := (v1 + 1)) (lv2 := [(1, .int (v1 + 1)), (0, .ref (ad (40, 0, 0))), (2, .int v2)]) hM d_Mo_surely_43 (j := 1) rfl rfl (Nat.le_of_ble_eq_true rfl) rfl ?_
    refine x_goto (tgt := 2) hM d_Mo_surely_46 (by decide) ?_
    refine x_sub [1, 0] rfl ?_
    exact F _ _ hSt V
  · replace F := F.2 q5
    refine x_aload_n hM d_Mo_surely_20 rfl 0 rfl ?_
    refine y_getr hG hM V ck_Mo 24 (Nat.le_of_ble_eq_true rfl) rfl rfl w_921 rfl d_Mo_surely_21 (40, 0, 0) (41, 24, 0) rfl rfl rfl ?_
    refine x_bipush (v := 12) hM d_Mo_surely_24 (by decide) ?_
    refine x_iload_n hM d_Mo_surely_26 rfl 1 rfl ?_
    refine x_imul hM d_Mo_surely_27 ?_
    refine x_iload_n hM d_Mo_surely_28 rfl 2 rfl ?_
    refine x_iadd hM d_Mo_surely_29 ?_
    refine x_aload_n hM d_Mo_surely_30 rfl 0 rfl ?_
    refine y_getr hG hM V ck_Mo 4 (Nat.le_of_ble_eq_true rfl) rfl rfl w_901 rfl d_Mo_surely_31 (40, 0, 0) (41, 4, 0) rfl rfl rfl ?_
    refine x_iload_n hM d_Mo_surely_34 rfl 2 rfl ?_
    obtain ⟨c2, F⟩ := F
    refine y_iaload hG hM V d_Mo_surely_35 (41, 4, 0) rfl rfl (by rw [vlen V (r := (41, 4, 0)) rfl rfl]; exact c2) ?_
    obtain ⟨c4, F⟩ := F
    obtain ⟨ρ3, eρ3⟩ : ∃ z : Rs, z = pI ρ (41, 24, 0) (Int32.toNatClampNeg ((12 * v1) + v2)) (iR ρ (41, 4, 0) (Int32.toNatClampNeg v2)) := ⟨_, rfl⟩
    replace F := F ρ3 eρ3
    refine y_iastore hG hM V d_Mo_surely_36 (41, 24, 0) rfl rfl (by rw [vlen V (r := (41, 24, 0)) rfl rfl]; exact c4) (fun h V => ?_)
    rw [← eρ3] at V
    clear eρ3
    refine x_iinc (v := (v2 + 1)) (lv2 := [(2, .int (v2 + 1)), (0, .ref (ad (40, 0, 0))), (1, .int v1)]) hM d_Mo_surely_37 (j := 2) rfl rfl (Nat.le_of_ble_eq_true rfl) rfl ?_
    refine x_goto (tgt := 12) hM d_Mo_surely_40 (by decide) ?_
    refine x_sub [1, 2, 0] rfl ?_
    exact F _ _ hSt V
set_option maxRecDepth 100000 in
set_option maxHeartbeats 4000000 in
theorem T_Mo_surely_60 {G : Gc} {M : Mc} {Q : State → Prop} {ad0 : Ro → Nat} {K : (Ro → Nat) → Option Value → Rs → Prop} (hG : gok G) (hM : mok G M r_Mo_surely Q (KV G [] ad0 K)) (v1 : Int32) (v2 : Int32) (ρ : Rs) (F : (v1 ≤ v2 → (∀ ad, K ad none ρ)) ∧ (¬ v1 ≤ v2 → (vp_in v2 4096 ∧ (vp_in (iR ρ (41, 23, 0) (Int32.toNatClampNeg v2)) 4096 ∧ (Y G [] ad0 M Q 77 (fun ad => [(0, .ref (ad (40, 0, 0))), (1, .int v1), (2, .int v2), (3, .int (iR ρ (41, 16, 0) (Int32.toNatClampNeg (iR ρ (41, 23, 0) (Int32.toNatClampNeg v2)))))]) (fun ad => []) ρ))))) : Y G [] ad0 M Q 60 (fun ad => [(0, .ref (ad (40, 0, 0))), (1, .int v1), (2, .int v2)]) (fun ad => []) ρ := by
  intro ad h hSt V
  show X G M Q 60 [(0, .ref (ad (40, 0, 0))), (1, .int v1), (2, .int v2)] [] h
  refine x_iload_n hM d_Mo_surely_60 rfl 2 rfl ?_
  refine x_iload_n hM d_Mo_surely_61 rfl 1 rfl ?_
  refine x_icmp_ge (tgt := 197) hM d_Mo_surely_62 (by decide) (fun q5 => ?_) (fun q5 => ?_)
  · replace F := F.1 q5
    exact x_return hM d_Mo_surely_197 rfl (y_end V hSt (F _))
  · replace F := F.2 q5
    refine x_aload_n hM d_Mo_surely_65 rfl 0 rfl ?_
    refine y_getr hG hM V ck_Mo 16 (Nat.le_of_ble_eq_true rfl) rfl rfl w_913 rfl d_Mo_surely_66 (40, 0, 0) (41, 16, 0) rfl rfl rfl ?_
    refine x_aload_n hM d_Mo_surely_69 rfl 0 rfl ?_
    refine y_getr hG hM V ck_Mo 23 (Nat.le_of_ble_eq_true rfl) rfl rfl w_920 rfl d_Mo_surely_70 (40, 0, 0) (41, 23, 0) rfl rfl rfl ?_
    refine x_iload_n hM d_Mo_surely_73 rfl 2 rfl ?_
    obtain ⟨c3, F⟩ := F
    refine y_iaload hG hM V d_Mo_surely_74 (41, 23, 0) rfl rfl (by rw [vlen V (r := (41, 23, 0)) rfl rfl]; exact c3) ?_
    obtain ⟨c4, F⟩ := F
    refine y_iaload hG hM V d_Mo_surely_75 (41, 16, 0) rfl rfl (by rw [vlen V (r := (41, 16, 0)) rfl rfl]; exact c4) ?_
    refine x_istore_n (lv2 := [(3, .int (iR ρ (41, 16, 0) (Int32.toNatClampNeg (iR ρ (41, 23, 0) (Int32.toNatClampNeg v2))))), (0, .ref (ad (40, 0, 0))), (1, .int v1), (2, .int v2)]) hM d_Mo_surely_76 rfl (Nat.le_of_ble_eq_true rfl) rfl ?_
    refine x_sub [1, 2, 3, 0] rfl ?_
    exact F _ _ hSt V
set_option maxRecDepth 100000 in
set_option maxHeartbeats 4000000 in
theorem T_Mo_surely_77 {G : Gc} {M : Mc} {Q : State → Prop} {ad0 : Ro → Nat} {K : (Ro → Nat) → Option Value → Rs → Prop} (hG : gok G) (hM : mok G M r_Mo_surely Q (KV G [] ad0 K)) (v1 : Int32) (v2 : Int32) (v3 : Int32) (ρ : Rs) (F : (v3 = (-1) → (Y G [] ad0 M Q 60 (fun ad => [(0, .ref (ad (40, 0, 0))), (1, .int v1), (2, .int (v2 + 1))]) (fun ad => []) ρ)) ∧ (¬ v3 = (-1) → (vp_in v3 147456 ∧ (vp_in v3 147456 ∧ (vp_in ((12 * ((iR ρ (41, 17, 0) (Int32.toNatClampNeg v3)) / 36)) + (((iR ρ (41, 17, 0) (Int32.toNatClampNeg v3)) - (iR ρ (41, 17, 0) (Int32.toNatClampNeg v3)) / 36 * 36) / 3)) 49152 ∧ (vp_in ((12 * ((iR ρ (41, 17, 0) (Int32.toNatClampNeg v3)) / 36)) + (((iR ρ (41, 17, 0) (Int32.toNatClampNeg v3)) - (iR ρ (41, 17, 0) (Int32.toNatClampNeg v3)) / 36 * 36) / 3)) 49152 ∧ (∀ ρ7 : Rs, ρ7 = pI ρ (41, 24, 0) (Int32.toNatClampNeg ((12 * ((iR ρ (41, 17, 0) (Int32.toNatClampNeg v3)) / 36)) + (((iR ρ (41, 17, 0) (Int32.toNatClampNeg v3)) - (iR ρ (41, 17, 0) (Int32.toNatClampNeg v3)) / 36 * 36) / 3))) ((iR ρ (41, 24, 0) (Int32.toNatClampNeg ((12 * ((iR ρ (41, 17, 0) (Int32.toNatClampNeg v3)) / 36)) + (((iR ρ (41, 17, 0) (Int32.toNatClampNeg v3)) - (iR ρ (41, 17, 0) (Int32.toNatClampNeg v3)) / 36 * 36) / 3)))) - 1) → (vp_in ((12 * ((iR ρ (41, 17, 0) (Int32.toNatClampNeg v3)) / 36)) + (((iR ρ (41, 17, 0) (Int32.toNatClampNeg v3)) - (iR ρ (41, 17, 0) (Int32.toNatClampNeg v3)) / 36 * 36) / 3)) 49152 ∧ (((iR ρ7 (41, 24, 0) (Int32.toNatClampNeg ((12 * ((iR ρ (41, 17, 0) (Int32.toNatClampNeg v3)) / 36)) + (((iR ρ (41, 17, 0) (Int32.toNatClampNeg v3)) - (iR ρ (41, 17, 0) (Int32.toNatClampNeg v3)) / 36 * 36) / 3)))) = 0 → (vp_in ((iR ρ (41, 17, 0) (Int32.toNatClampNeg v3)) / 36) 4096 ∧ (((iR ρ7 (41, 21, 0) (Int32.toNatClampNeg ((iR ρ (41, 17, 0) (Int32.toNatClampNeg v3)) / 36))) = (-1) → (vp_in v2 4096 ∧ (vp_in (iR ρ7 (41, 23, 0) (Int32.toNatClampNeg v2)) 4096 ∧ (vp_in ((iR ρ (41, 17, 0) (Int32.toNatClampNeg v3)) / 36) 4096 ∧ (∀ ρ19 : Rs, ρ19 = pI ρ7 (41, 21, 0) (Int32.toNatClampNeg ((iR ρ (41, 17, 0) (Int32.toNatClampNeg v3)) / 36)) ((iR ρ7 (41, 21, 0) (Int32.toNatClampNeg (iR ρ7 (41, 23, 0) (Int32.toNatClampNeg v2)))) + 1) → (vp_in v1 4096 ∧ (∀ ρ20 : Rs, ρ20 = pI ρ19 (41, 23, 0) (Int32.toNatClampNeg v1) ((iR ρ (41, 17, 0) (Int32.toNatClampNeg v3)) / 36) → (vp_in v3 147456 ∧ (Y G [] ad0 M Q 77 (fun ad => [(0, .ref (ad (40, 0, 0))), (1, .int (v1 + 1)), (2, .int v2), (3, .int (iR ρ20 (41, 18, 0) (Int32.toNatClampNeg v3)))]) (fun ad => []) ρ20))))))))) ∧ (¬ (iR ρ7 (41, 21, 0) (Int32.toNatClampNeg ((iR ρ (41, 17, 0) (Int32.toNatClampNeg v3)) / 36))) = (-1) → (vp_in v3 147456 ∧ (Y G [] ad0 M Q 77 (fun ad => [(0, .ref (ad (40, 0, 0))), (1, .int v1), (2, .int v2), (3, .int (iR ρ7 (41, 18, 0) (Int32.toNatClampNeg v3)))]) (fun ad => []) ρ7)))))) ∧ (¬ (iR ρ7 (41, 24, 0) (Int32.toNatClampNeg ((12 * ((iR ρ (41, 17, 0) (Int32.toNatClampNeg v3)) / 36)) + (((iR ρ (41, 17, 0) (Int32.toNatClampNeg v3)) - (iR ρ (41, 17, 0) (Int32.toNatClampNeg v3)) / 36 * 36) / 3)))) = 0 → (vp_in v3 147456 ∧ (Y G [] ad0 M Q 77 (fun ad => [(0, .ref (ad (40, 0, 0))), (1, .int v1), (2, .int v2), (3, .int (iR ρ7 (41, 18, 0) (Int32.toNatClampNeg v3)))]) (fun ad => []) ρ7)))))))))))) : Y G [] ad0 M Q 77 (fun ad => [(0, .ref (ad (40, 0, 0))), (1, .int v1), (2, .int v2), (3, .int v3)]) (fun ad => []) ρ := by
  intro ad h hSt V
  show X G M Q 77 [(0, .ref (ad (40, 0, 0))), (1, .int v1), (2, .int v2), (3, .int v3)] [] h
  refine x_iload_n hM d_Mo_surely_77 rfl 3 rfl ?_
  refine x_iconst (v := (-1)) hM d_Mo_surely_78 (by decide) ?_
  refine x_icmp_eq (tgt := 191) hM d_Mo_surely_79 (by decide) (fun q27 => ?_) (fun q27 => ?_)
  · replace F := F.1 q27
    refine x_iinc (v := (v2 + 1)) (lv2 := [(2, .int (v2 + 1)), (0, .ref (ad (40, 0, 0))), (1, .int v1), (3, .int v3)]) hM d_Mo_surely_191 (j := 2) rfl rfl (Nat.le_of_ble_eq_true rfl) rfl ?_
    refine x_goto (tgt := 60) hM d_Mo_surely_194 (by decide) ?_
    refine x_sub [1, 2, 0] rfl ?_
    exact F _ _ hSt V
  · replace F := F.2 q27
    refine x_aload_n hM d_Mo_surely_82 rfl 0 rfl ?_
    refine y_getr hG hM V ck_Mo 17 (Nat.le_of_ble_eq_true rfl) rfl rfl w_914 rfl d_Mo_surely_83 (40, 0, 0) (41, 17, 0) rfl rfl rfl ?_
    refine x_iload_n hM d_Mo_surely_86 rfl 3 rfl ?_
    obtain ⟨c4, F⟩ := F
    refine y_iaload hG hM V d_Mo_surely_87 (41, 17, 0) rfl rfl (by rw [vlen V (r := (41, 17, 0)) rfl rfl]; exact c4) ?_
    refine x_bipush (v := 36) hM d_Mo_surely_88 (by decide) ?_
    refine x_idiv hM d_Mo_surely_90 (by decide) ?_
    refine x_istore (lv2 := [(4, .int ((iR ρ (41, 17, 0) (Int32.toNatClampNeg v3)) / 36)), (0, .ref (ad (40, 0, 0))), (1, .int v1), (2, .int v2), (3, .int v3)]) hM d_Mo_surely_91 (Nat.le_of_ble_eq_true rfl) rfl ?_
    refine x_aload_n hM d_Mo_surely_93 rfl 1 rfl ?_
    refine y_getr hG hM V ck_Mo 17 (Nat.le_of_ble_eq_true rfl) rfl rfl w_914 rfl d_Mo_surely_94 (40, 0, 0) (41, 17, 0) rfl rfl rfl ?_
    refine x_iload_n hM d_Mo_surely_97 rfl 4 rfl ?_
    obtain ⟨c5, F⟩ := F
    refine y_iaload hG hM V d_Mo_surely_98 (41, 17, 0) rfl rfl (by rw [vlen V (r := (41, 17, 0)) rfl rfl]; exact c5) ?_
    refine x_bipush (v := 36) hM d_Mo_surely_99 (by decide) ?_
    refine x_irem hM d_Mo_surely_101 (by decide) ?_
    refine x_iconst (v := 3) hM d_Mo_surely_102 (by decide) ?_
    refine x_idiv hM d_Mo_surely_103 (by decide) ?_
    refine x_istore (lv2 := [(5, .int (((iR ρ (41, 17, 0) (Int32.toNatClampNeg v3)) - (iR ρ (41, 17, 0) (Int32.toNatClampNeg v3)) / 36 * 36) / 3)), (4, .int ((iR ρ (41, 17, 0) (Int32.toNatClampNeg v3)) / 36)), (0, .ref (ad (40, 0, 0))), (1, .int v1), (2, .int v2), (3, .int v3)]) hM d_Mo_surely_104 (Nat.le_of_ble_eq_true rfl) rfl ?_
    refine x_aload_n hM d_Mo_surely_106 rfl 2 rfl ?_
    refine y_getr hG hM V ck_Mo 24 (Nat.le_of_ble_eq_true rfl) rfl rfl w_921 rfl d_Mo_surely_107 (40, 0, 0) (41, 24, 0) rfl rfl rfl ?_
    refine x_bipush (v := 12) hM d_Mo_surely_110 (by decide) ?_
    refine x_iload hM d_Mo_surely_112 1 rfl ?_
    refine x_imul hM d_Mo_surely_114 ?_
    refine x_iload hM d_Mo_surely_115 0 rfl ?_
    refine x_iadd hM d_Mo_surely_117 ?_
    refine x_dup2 hM d_Mo_surely_118 rfl rfl ?_
    obtain ⟨c6, F⟩ := F
    refine y_iaload hG hM V d_Mo_surely_119 (41, 24, 0) rfl rfl (by rw [vlen V (r := (41, 24, 0)) rfl rfl]; exact c6) ?_
    refine x_iconst (v := 1) hM d_Mo_surely_120 (by decide) ?_
    refine x_isub hM d_Mo_surely_121 ?_
    obtain ⟨c26, F⟩ := F
    obtain ⟨ρ7, eρ7⟩ : ∃ z : Rs, z = pI ρ (41, 24, 0) (Int32.toNatClampNeg ((12 * ((iR ρ (41, 17, 0) (Int32.toNatClampNeg v3)) / 36)) + (((iR ρ (41, 17, 0) (Int32.toNatClampNeg v3)) - (iR ρ (41, 17, 0) (Int32.toNatClampNeg v3)) / 36 * 36) / 3))) ((iR ρ (41, 24, 0) (Int32.toNatClampNeg ((12 * ((iR ρ (41, 17, 0) (Int32.toNatClampNeg v3)) / 36)) + (((iR ρ (41, 17, 0) (Int32.toNatClampNeg v3)) - (iR ρ (41, 17, 0) (Int32.toNatClampNeg v3)) / 36 * 36) / 3)))) - 1) := ⟨_, rfl⟩
    replace F := F ρ7 eρ7
    refine y_iastore hG hM V d_Mo_surely_122 (41, 24, 0) rfl rfl (by rw [vlen V (r := (41, 24, 0)) rfl rfl]; exact c26) (fun h V => ?_)
    rw [← eρ7] at V
    clear eρ7
    refine x_aload_n hM d_Mo_surely_123 rfl 2 rfl ?_
    refine y_getr hG hM V ck_Mo 24 (Nat.le_of_ble_eq_true rfl) rfl rfl w_921 rfl d_Mo_surely_124 (40, 0, 0) (41, 24, 0) rfl rfl rfl ?_
    refine x_bipush (v := 12) hM d_Mo_surely_127 (by decide) ?_
    refine x_iload hM d_Mo_surely_129 1 rfl ?_
    refine x_imul hM d_Mo_surely_131 ?_
    refine x_iload hM d_Mo_surely_132 0 rfl ?_
    refine x_iadd hM d_Mo_surely_134 ?_
    obtain ⟨c8, F⟩ := F
    refine y_iaload hG hM V d_Mo_surely_135 (41, 24, 0) rfl rfl (by rw [vlen V (r := (41, 24, 0)) rfl rfl]; exact c8) ?_
    refine x_if_ne (tgt := 181) hM d_Mo_surely_136 (by decide) (fun q25 => ?_) (fun q25 => ?_)
    · replace F := F.2 q25
      refine x_aload_n hM d_Mo_surely_181 rfl 2 rfl ?_
      refine y_getr hG hM V ck_Mo 18 (Nat.le_of_ble_eq_true rfl) rfl rfl w_915 rfl d_Mo_surely_182 (40, 0, 0) (41, 18, 0) rfl rfl rfl ?_
      refine x_iload_n hM d_Mo_surely_185 rfl 5 rfl ?_
      obtain ⟨c12, F⟩ := F
      refine y_iaload hG hM V d_Mo_surely_186 (41, 18, 0) rfl rfl (by rw [vlen V (r := (41, 18, 0)) rfl rfl]; exact c12) ?_
      refine x_istore_n (lv2 := [(3, .int (iR ρ7 (41, 18, 0) (Int32.toNatClampNeg v3))), (5, .int (((iR ρ (41, 17, 0) (Int32.toNatClampNeg v3)) - (iR ρ (41, 17, 0) (Int32.toNatClampNeg v3)) / 36 * 36) / 3)), (4, .int ((iR ρ (41, 17, 0) (Int32.toNatClampNeg v3)) / 36)), (0, .ref (ad (40, 0, 0))), (1, .int v1), (2, .int v2)]) hM d_Mo_surely_187 rfl (Nat.le_of_ble_eq_true rfl) rfl ?_
      refine x_goto (tgt := 77) hM d_Mo_surely_188 (by decide) ?_
      refine x_sub [3, 4, 5, 0] rfl ?_
      exact F _ _ hSt V
    · replace F := F.1 q25
      refine x_aload_n hM d_Mo_surely_139 rfl 2 rfl ?_
      refine y_getr hG hM V ck_Mo 21 (Nat.le_of_ble_eq_true rfl) rfl rfl w_918 rfl d_Mo_surely_140 (40, 0, 0) (41, 21, 0) rfl rfl rfl ?_
      refine x_iload hM d_Mo_surely_143 1 rfl ?_
      obtain ⟨c13, F⟩ := F
      refine y_iaload hG hM V d_Mo_surely_145 (41, 21, 0) rfl rfl (by rw [vlen V (r := (41, 21, 0)) rfl rfl]; exact c13) ?_
      refine x_iconst (v := (-1)) hM d_Mo_surely_146 (by decide) ?_
      refine x_icmp_ne (tgt := 181) hM d_Mo_surely_147 (by decide) (fun q24 => ?_) (fun q24 => ?_)
      · replace F := F.2 q24
        refine x_aload_n hM d_Mo_surely_181 rfl 2 rfl ?_
        refine y_getr hG hM V ck_Mo 18 (Nat.le_of_ble_eq_true rfl) rfl rfl w_915 rfl d_Mo_surely_182 (40, 0, 0) (41, 18, 0) rfl rfl rfl ?_
        refine x_iload_n hM d_Mo_surely_185 rfl 5 rfl ?_
        obtain ⟨c16, F⟩ := F
        refine y_iaload hG hM V d_Mo_surely_186 (41, 18, 0) rfl rfl (by rw [vlen V (r := (41, 18, 0)) rfl rfl]; exact c16) ?_
        refine x_istore_n (lv2 := [(3, .int (iR ρ7 (41, 18, 0) (Int32.toNatClampNeg v3))), (5, .int (((iR ρ (41, 17, 0) (Int32.toNatClampNeg v3)) - (iR ρ (41, 17, 0) (Int32.toNatClampNeg v3)) / 36 * 36) / 3)), (4, .int ((iR ρ (41, 17, 0) (Int32.toNatClampNeg v3)) / 36)), (0, .ref (ad (40, 0, 0))), (1, .int v1), (2, .int v2)]) hM d_Mo_surely_187 rfl (Nat.le_of_ble_eq_true rfl) rfl ?_
        refine x_goto (tgt := 77) hM d_Mo_surely_188 (by decide) ?_
        refine x_sub [3, 4, 5, 0] rfl ?_
        exact F _ _ hSt V
      · replace F := F.1 q24
        refine x_aload_n hM d_Mo_surely_150 rfl 2 rfl ?_
        refine y_getr hG hM V ck_Mo 21 (Nat.le_of_ble_eq_true rfl) rfl rfl w_918 rfl d_Mo_surely_151 (40, 0, 0) (41, 21, 0) rfl rfl rfl ?_
        refine x_iload hM d_Mo_surely_154 1 rfl ?_
        refine x_aload_n hM d_Mo_surely_156 rfl 2 rfl ?_
        refine y_getr hG hM V ck_Mo 21 (Nat.le_of_ble_eq_true rfl) rfl rfl w_918 rfl d_Mo_surely_157 (40, 0, 0) (41, 21, 0) rfl rfl rfl ?_
        refine x_aload_n hM d_Mo_surely_160 rfl 2 rfl ?_
        refine y_getr hG hM V ck_Mo 23 (Nat.le_of_ble_eq_true rfl) rfl rfl w_920 rfl d_Mo_surely_161 (40, 0, 0) (41, 23, 0) rfl rfl rfl ?_
        refine x_iload_n hM d_Mo_surely_164 rfl 4 rfl ?_
        obtain ⟨c17, F⟩ := F
        refine y_iaload hG hM V d_Mo_surely_165 (41, 23, 0) rfl rfl (by rw [vlen V (r := (41, 23, 0)) rfl rfl]; exact c17) ?_
        obtain ⟨c18, F⟩ := F
        refine y_iaload hG hM V d_Mo_surely_166 (41, 21, 0) rfl rfl (by rw [vlen V (r := (41, 21, 0)) rfl rfl]; exact c18) ?_
        refine x_iconst (v := 1) hM d_Mo_surely_167 (by decide) ?_
        refine x_iadd hM d_Mo_surely_168 ?_
        obtain ⟨c23, F⟩ := F
        obtain ⟨ρ19, eρ19⟩ : ∃ z : Rs, z = pI ρ7 (41, 21, 0) (Int32.toNatClampNeg ((iR ρ (41, 17, 0) (Int32.toNatClampNeg v3)) / 36)) ((iR ρ7 (41, 21, 0) (Int32.toNatClampNeg (iR ρ7 (41, 23, 0) (Int32.toNatClampNeg v2)))) + 1) := ⟨_, rfl⟩
        replace F := F ρ19 eρ19
        refine y_iastore hG hM V d_Mo_surely_169 (41, 21, 0) rfl rfl (by rw [vlen V (r := (41, 21, 0)) rfl rfl]; exact c23) (fun h V => ?_)
        rw [← eρ19] at V
        clear eρ19
        refine x_aload_n hM d_Mo_surely_170 rfl 2 rfl ?_
        refine y_getr hG hM V ck_Mo 23 (Nat.le_of_ble_eq_true rfl) rfl rfl w_920 rfl d_Mo_surely_171 (40, 0, 0) (41, 23, 0) rfl rfl rfl ?_
        refine x_iload_n hM d_Mo_surely_174 rfl 3 rfl ?_
        refine x_iload hM d_Mo_surely_175 1 rfl ?_
        obtain ⟨c22, F⟩ := F
        obtain ⟨ρ20, eρ20⟩ : ∃ z : Rs, z = pI ρ19 (41, 23, 0) (Int32.toNatClampNeg v1) ((iR ρ (41, 17, 0) (Int32.toNatClampNeg v3)) / 36) := ⟨_, rfl⟩
        replace F := F ρ20 eρ20
        refine y_iastore hG hM V d_Mo_surely_177 (41, 23, 0) rfl rfl (by rw [vlen V (r := (41, 23, 0)) rfl rfl]; exact c22) (fun h V => ?_)
        rw [← eρ20] at V
        clear eρ20
        refine x_iinc (v := (v1 + 1)) (lv2 := [(1, .int (v1 + 1)), (5, .int (((iR ρ (41, 17, 0) (Int32.toNatClampNeg v3)) - (iR ρ (41, 17, 0) (Int32.toNatClampNeg v3)) / 36 * 36) / 3)), (4, .int ((iR ρ (41, 17, 0) (Int32.toNatClampNeg v3)) / 36)), (0, .ref (ad (40, 0, 0))), (2, .int v2), (3, .int v3)]) hM d_Mo_surely_178 (j := 3) rfl rfl (Nat.le_of_ble_eq_true rfl) rfl ?_
        refine x_aload_n hM d_Mo_surely_181 rfl 3 rfl ?_
        refine y_getr hG hM V ck_Mo 18 (Nat.le_of_ble_eq_true rfl) rfl rfl w_915 rfl d_Mo_surely_182 (40, 0, 0) (41, 18, 0) rfl rfl rfl ?_
        refine x_iload_n hM d_Mo_surely_185 rfl 5 rfl ?_
        obtain ⟨c21, F⟩ := F
        refine y_iaload hG hM V d_Mo_surely_186 (41, 18, 0) rfl rfl (by rw [vlen V (r := (41, 18, 0)) rfl rfl]; exact c21) ?_
        refine x_istore_n (lv2 := [(3, .int (iR ρ20 (41, 18, 0) (Int32.toNatClampNeg v3))), (1, .int (v1 + 1)), (5, .int (((iR ρ (41, 17, 0) (Int32.toNatClampNeg v3)) - (iR ρ (41, 17, 0) (Int32.toNatClampNeg v3)) / 36 * 36) / 3)), (4, .int ((iR ρ (41, 17, 0) (Int32.toNatClampNeg v3)) / 36)), (0, .ref (ad (40, 0, 0))), (2, .int v2)]) hM d_Mo_surely_187 rfl (Nat.le_of_ble_eq_true rfl) rfl ?_
        refine x_goto (tgt := 77) hM d_Mo_surely_188 (by decide) ?_
        refine x_sub [4, 1, 5, 0] rfl ?_
        exact F _ _ hSt V
set_option maxRecDepth 100000 in
set_option maxHeartbeats 4000000 in
theorem T_Mo_fairly_0 {G : Gc} {M : Mc} {Q : State → Prop} {ad0 : Ro → Nat} {K : (Ro → Nat) → Option Value → Rs → Prop} (hG : gok G) (hM : mok G M r_Mo_fairly Q (KV G [] ad0 K))  (ρ : Rs) (F : Y G [] ad0 M Q 2 (fun ad => [(0, .ref (ad (40, 0, 0))), (1, .int 0)]) (fun ad => []) ρ) : Y G [] ad0 M Q 0 (fun ad => [(0, .ref (ad (40, 0, 0)))]) (fun ad => []) ρ := by
  intro ad h hSt V
  show X G M Q 0 [(0, .ref (ad (40, 0, 0)))] [] h
  refine x_iconst (v := 0) hM d_Mo_fairly_0 (by decide) ?_
  refine x_istore_n (lv2 := [(1, .int 0), (0, .ref (ad (40, 0, 0)))]) hM d_Mo_fairly_1 rfl (Nat.le_of_ble_eq_true rfl) rfl ?_
  refine x_sub [1, 0] rfl ?_
  exact F _ _ hSt V
set_option maxRecDepth 100000 in
set_option maxHeartbeats 4000000 in
theorem T_Mo_fairly_2 {G : Gc} {M : Mc} {Q : State → Prop} {ad0 : Ro → Nat} {K : (Ro → Nat) → Option Value → Rs → Prop} (hG : gok G) (hM : mok G M r_Mo_fairly Q (KV G [] ad0 K)) (v1 : Int32) (ρ : Rs) (F : ((iR ρ (40, 0, 0) 13) ≤ v1 → (Y G [] ad0 M Q 25 (fun ad => [(0, .ref (ad (40, 0, 0))), (1, .int 1)]) (fun ad => []) ρ)) ∧ (¬ (iR ρ (40, 0, 0) 13) ≤ v1 → (vp_in v1 4096 ∧ (∀ ρ1 : Rs, ρ1 = pI ρ (41, 25, 0) (Int32.toNatClampNeg v1) 1 → (Y G [] ad0 M Q 2 (fun ad => [(0, .ref (ad (40, 0, 0))), (1, .int (v1 + 1))]) (fun ad => []) ρ1))))) : Y G [] ad0 M Q 2 (fun ad => [(0, .ref (ad (40, 0, 0))), (1, .int v1)]) (fun ad => []) ρ := by
  intro ad h hSt V
  show X G M Q 2 [(0, .ref (ad (40, 0, 0))), (1, .int v1)] [] h
  refine x_iload_n hM d_Mo_fairly_2 rfl 1 rfl ?_
  refine x_aload_n hM d_Mo_fairly_3 rfl 0 rfl ?_
  refine y_geti hG hM V ck_Mo 13 (Nat.le_of_ble_eq_true rfl) rfl rfl w_910 rfl d_Mo_fairly_4 (40, 0, 0) rfl rfl ?_
  refine x_icmp_ge (tgt := 23) hM d_Mo_fairly_7 (by decide) (fun q3 => ?_) (fun q3 => ?_)
  · replace F := F.1 q3
    refine x_iconst (v := 1) hM d_Mo_fairly_23 (by decide) ?_
    refine x_istore_n (lv2 := [(1, .int 1), (0, .ref (ad (40, 0, 0)))]) hM d_Mo_fairly_24 rfl (Nat.le_of_ble_eq_true rfl) rfl ?_
    refine x_sub [1, 0] rfl ?_
    exact F _ _ hSt V
  · replace F := F.2 q3
    refine x_aload_n hM d_Mo_fairly_10 rfl 0 rfl ?_
    refine y_getr hG hM V ck_Mo 25 (Nat.le_of_ble_eq_true rfl) rfl rfl w_922 rfl d_Mo_fairly_11 (40, 0, 0) (41, 25, 0) rfl rfl rfl ?_
    refine x_iload_n hM d_Mo_fairly_14 rfl 1 rfl ?_
    refine x_iconst (v := 1) hM d_Mo_fairly_15 (by decide) ?_
    obtain ⟨c2, F⟩ := F
    obtain ⟨ρ1, eρ1⟩ : ∃ z : Rs, z = pI ρ (41, 25, 0) (Int32.toNatClampNeg v1) 1 := ⟨_, rfl⟩
    replace F := F ρ1 eρ1
    refine y_zastore hG hM V d_Mo_fairly_16 (41, 25, 0) rfl rfl (by rw [vlen V (r := (41, 25, 0)) rfl rfl]; exact c2) (Or.inr rfl) (fun h V => ?_)
    rw [← eρ1] at V
    clear eρ1
    refine x_iinc (v := (v1 + 1)) (lv2 := [(1, .int (v1 + 1)), (0, .ref (ad (40, 0, 0)))]) hM d_Mo_fairly_17 (j := 1) rfl rfl (Nat.le_of_ble_eq_true rfl) rfl ?_
    refine x_goto (tgt := 2) hM d_Mo_fairly_20 (by decide) ?_
    refine x_sub [1, 0] rfl ?_
    exact F _ _ hSt V
set_option maxRecDepth 100000 in
set_option maxHeartbeats 4000000 in
theorem T_Mo_fairly_25 {G : Gc} {M : Mc} {Q : State → Prop} {ad0 : Ro → Nat} {K : (Ro → Nat) → Option Value → Rs → Prop} (hG : gok G) (hM : mok G M r_Mo_fairly Q (KV G [] ad0 K)) (v1 : Int32) (ρ : Rs) (F : (v1 = 0 → (∀ ad, K ad none ρ)) ∧ (¬ v1 = 0 → (semV G r_Mo_aims [] (fun ad => [.ref (ad (40, 0, 0)), .ref (ad (41, 22, 0))]) ρ (fun ad u2 ρ1 => ∃ x4 : Int32, u2 = some (.int x4) ∧ (Y G [] ad0 M Q 40 (fun ad => [(0, .ref (ad (40, 0, 0))), (2, .int x4), (3, .int 0)]) (fun ad => []) ρ1))))) : Y G [] ad0 M Q 25 (fun ad => [(0, .ref (ad (40, 0, 0))), (1, .int v1)]) (fun ad => []) ρ := by
  intro ad h hSt V
  show X G M Q 25 [(0, .ref (ad (40, 0, 0))), (1, .int v1)] [] h
  refine x_iload_n hM d_Mo_fairly_25 rfl 1 rfl ?_
  refine x_if_eq (tgt := 238) hM d_Mo_fairly_26 (by decide) (fun q6 => ?_) (fun q6 => ?_)
  · replace F := F.1 q6
    exact x_return hM d_Mo_fairly_238 rfl (y_end V hSt (F _))
  · replace F := F.2 q6
    refine x_aload_n hM d_Mo_fairly_29 rfl 0 rfl ?_
    refine x_aload_n hM d_Mo_fairly_30 rfl 0 rfl ?_
    refine y_getr hG hM V ck_Mo 22 (Nat.le_of_ble_eq_true rfl) rfl rfl w_919 rfl d_Mo_fairly_31 (40, 0, 0) (41, 22, 0) rfl rfl rfl ?_
    refine x_callV hG hM (r' := r_Mo_aims) (ci := 11) [.ref (ad (41, 22, 0))] rfl rfl (Nat.le_of_ble_eq_true rfl) yk_Mo_aims ⟨Nat.le_of_ble_eq_true rfl, Nat.le_of_ble_eq_true rfl⟩ w_1124 w_1126 ws_Mo_aims rfl rfl (Nat.le_of_ble_eq_true rfl) d_Mo_fairly_34 (by rw [vT V rfl]; rfl) (sem_mono (F _ _ V) ?_)
    intro u2 h F
    obtain ⟨ad5, ρ1, V, hs3, F⟩ := F
    obtain ⟨x4, rfl, F⟩ := F
    have hs3 := (St_eq hs3).symm
    subst hs3
    refine x_istore_n (lv2 := [(2, .int x4), (0, .ref (ad (40, 0, 0))), (1, .int v1)]) hM d_Mo_fairly_37 rfl (Nat.le_of_ble_eq_true rfl) rfl ?_
    refine x_iconst (v := 0) hM d_Mo_fairly_38 (by decide) ?_
    refine x_istore_n (lv2 := [(3, .int 0), (2, .int x4), (0, .ref (ad (40, 0, 0))), (1, .int v1)]) hM d_Mo_fairly_39 rfl (Nat.le_of_ble_eq_true rfl) rfl ?_
    refine x_sub [2, 1, 0] rfl ?_
    exact F _ _ hSt V
set_option maxRecDepth 100000 in
set_option maxHeartbeats 4000000 in
theorem T_Mo_fairly_40 {G : Gc} {M : Mc} {Q : State → Prop} {ad0 : Ro → Nat} {K : (Ro → Nat) → Option Value → Rs → Prop} (hG : gok G) (hM : mok G M r_Mo_fairly Q (KV G [] ad0 K)) (v2 : Int32) (v3 : Int32) (ρ : Rs) (F : (v2 ≤ v3 → (Y G [] ad0 M Q 171 (fun ad => [(0, .ref (ad (40, 0, 0))), (1, .int 0), (3, .int 0)]) (fun ad => []) ρ)) ∧ (¬ v2 ≤ v3 → (vp_in v3 4096 ∧ (vp_in (iR ρ (41, 23, 0) (Int32.toNatClampNeg v3)) 4096 ∧ (Y G [] ad0 M Q 58 (fun ad => [(0, .ref (ad (40, 0, 0))), (2, .int v2), (3, .int v3), (4, .int (iR ρ (41, 16, 0) (Int32.toNatClampNeg (iR ρ (41, 23, 0) (Int32.toNatClampNeg v3)))))]) (fun ad => []) ρ))))) : Y G [] ad0 M Q 40 (fun ad => [(0, .ref (ad (40, 0, 0))), (2, .int v2), (3, .int v3)]) (fun ad => []) ρ := by
  intro ad h hSt V
  show X G M Q 40 [(0, .ref (ad (40, 0, 0))), (2, .int v2), (3, .int v3)] [] h
  refine x_iload_n hM d_Mo_fairly_40 rfl 2 rfl ?_
  refine x_iload_n hM d_Mo_fairly_41 rfl 1 rfl ?_
  refine x_icmp_ge (tgt := 167) hM d_Mo_fairly_42 (by decide) (fun q5 => ?_) (fun q5 => ?_)
  · replace F := F.1 q5
    refine x_iconst (v := 0) hM d_Mo_fairly_167 (by decide) ?_
    refine x_istore_n (lv2 := [(1, .int 0), (0, .ref (ad (40, 0, 0))), (2, .int v2), (3, .int v3)]) hM d_Mo_fairly_168 rfl (Nat.le_of_ble_eq_true rfl) rfl ?_
    refine x_iconst (v := 0) hM d_Mo_fairly_169 (by decide) ?_
    refine x_istore_n (lv2 := [(3, .int 0), (1, .int 0), (0, .ref (ad (40, 0, 0))), (2, .int v2)]) hM d_Mo_fairly_170 rfl (Nat.le_of_ble_eq_true rfl) rfl ?_
    refine x_sub [2, 1, 0] rfl ?_
    exact F _ _ hSt V
  · replace F := F.2 q5
    refine x_aload_n hM d_Mo_fairly_45 rfl 0 rfl ?_
    refine y_getr hG hM V ck_Mo 16 (Nat.le_of_ble_eq_true rfl) rfl rfl w_913 rfl d_Mo_fairly_46 (40, 0, 0) (41, 16, 0) rfl rfl rfl ?_
    refine x_aload_n hM d_Mo_fairly_49 rfl 0 rfl ?_
    refine y_getr hG hM V ck_Mo 23 (Nat.le_of_ble_eq_true rfl) rfl rfl w_920 rfl d_Mo_fairly_50 (40, 0, 0) (41, 23, 0) rfl rfl rfl ?_
    refine x_iload_n hM d_Mo_fairly_53 rfl 2 rfl ?_
    obtain ⟨c3, F⟩ := F
    refine y_iaload hG hM V d_Mo_fairly_54 (41, 23, 0) rfl rfl (by rw [vlen V (r := (41, 23, 0)) rfl rfl]; exact c3) ?_
    obtain ⟨c4, F⟩ := F
    refine y_iaload hG hM V d_Mo_fairly_55 (41, 16, 0) rfl rfl (by rw [vlen V (r := (41, 16, 0)) rfl rfl]; exact c4) ?_
    refine x_istore (lv2 := [(4, .int (iR ρ (41, 16, 0) (Int32.toNatClampNeg (iR ρ (41, 23, 0) (Int32.toNatClampNeg v3))))), (0, .ref (ad (40, 0, 0))), (2, .int v2), (3, .int v3)]) hM d_Mo_fairly_56 (Nat.le_of_ble_eq_true rfl) rfl ?_
    refine x_sub [1, 2, 3, 0] rfl ?_
    exact F _ _ hSt V
set_option maxRecDepth 100000 in
set_option maxHeartbeats 4000000 in
theorem T_Mo_fairly_58 {G : Gc} {M : Mc} {Q : State → Prop} {ad0 : Ro → Nat} {K : (Ro → Nat) → Option Value → Rs → Prop} (hG : gok G) (hM : mok G M r_Mo_fairly Q (KV G [] ad0 K)) (v2 : Int32) (v3 : Int32) (v4 : Int32) (ρ : Rs) (F : (v4 = (-1) → (Y G [] ad0 M Q 40 (fun ad => [(0, .ref (ad (40, 0, 0))), (2, .int v2), (3, .int (v3 + 1))]) (fun ad => []) ρ)) ∧ (¬ v4 = (-1) → (vp_in v4 147456 ∧ (vp_in ((iR ρ (41, 17, 0) (Int32.toNatClampNeg v4)) / 36) 4096 ∧ (((iR ρ (41, 22, 0) (Int32.toNatClampNeg ((iR ρ (41, 17, 0) (Int32.toNatClampNeg v4)) / 36))) = (-1) → (vp_in ((iR ρ (41, 17, 0) (Int32.toNatClampNeg v4)) / 36) 4096 ∧ (((iR ρ (41, 25, 0) (Int32.toNatClampNeg ((iR ρ (41, 17, 0) (Int32.toNatClampNeg v4)) / 36))) = 0 → (vp_in v4 147456 ∧ (Y G [] ad0 M Q 58 (fun ad => [(0, .ref (ad (40, 0, 0))), (2, .int v2), (3, .int v3), (4, .int (iR ρ (41, 18, 0) (Int32.toNatClampNeg v4)))]) (fun ad => []) ρ))) ∧ (¬ (iR ρ (41, 25, 0) (Int32.toNatClampNeg ((iR ρ (41, 17, 0) (Int32.toNatClampNeg v4)) / 36))) = 0 → (vp_in v4 147456 ∧ (semV G r_Mo_staysWon [] (fun ad => [.ref (ad (40, 0, 0)), .int ((iR ρ (41, 17, 0) (Int32.toNatClampNeg v4)) / 36), .int (((iR ρ (41, 17, 0) (Int32.toNatClampNeg v4)) - (iR ρ (41, 17, 0) (Int32.toNatClampNeg v4)) / 36 * 36) / 3)]) ρ (fun ad u14 ρ13 => ∃ x16 : Int32, u14 = some (.int x16) ∧ ((x16 = 0 → (vp_in v4 147456 ∧ (Y G [] ad0 M Q 58 (fun ad => [(0, .ref (ad (40, 0, 0))), (2, .int v2), (3, .int v3), (4, .int (iR ρ13 (41, 18, 0) (Int32.toNatClampNeg v4)))]) (fun ad => []) ρ13))) ∧ (¬ x16 = 0 → (vp_in v3 4096 ∧ (vp_in (iR ρ13 (41, 23, 0) (Int32.toNatClampNeg v3)) 4096 ∧ (vp_in ((iR ρ (41, 17, 0) (Int32.toNatClampNeg v4)) / 36) 4096 ∧ (∀ ρ22 : Rs, ρ22 = pI ρ13 (41, 22, 0) (Int32.toNatClampNeg ((iR ρ (41, 17, 0) (Int32.toNatClampNeg v4)) / 36)) ((iR ρ13 (41, 22, 0) (Int32.toNatClampNeg (iR ρ13 (41, 23, 0) (Int32.toNatClampNeg v3)))) + 1) → (vp_in v2 4096 ∧ (∀ ρ23 : Rs, ρ23 = pI ρ22 (41, 23, 0) (Int32.toNatClampNeg v2) ((iR ρ (41, 17, 0) (Int32.toNatClampNeg v4)) / 36) → (vp_in v4 147456 ∧ (Y G [] ad0 M Q 58 (fun ad => [(0, .ref (ad (40, 0, 0))), (2, .int (v2 + 1)), (3, .int v3), (4, .int (iR ρ23 (41, 18, 0) (Int32.toNatClampNeg v4)))]) (fun ad => []) ρ23))))))))))))))))) ∧ (¬ (iR ρ (41, 22, 0) (Int32.toNatClampNeg ((iR ρ (41, 17, 0) (Int32.toNatClampNeg v4)) / 36))) = (-1) → (vp_in v4 147456 ∧ (Y G [] ad0 M Q 58 (fun ad => [(0, .ref (ad (40, 0, 0))), (2, .int v2), (3, .int v3), (4, .int (iR ρ (41, 18, 0) (Int32.toNatClampNeg v4)))]) (fun ad => []) ρ)))))))) : Y G [] ad0 M Q 58 (fun ad => [(0, .ref (ad (40, 0, 0))), (2, .int v2), (3, .int v3), (4, .int v4)]) (fun ad => []) ρ := by
  intro ad h hSt V
  show X G M Q 58 [(0, .ref (ad (40, 0, 0))), (2, .int v2), (3, .int v3), (4, .int v4)] [] h
  refine x_iload hM d_Mo_fairly_58 3 rfl ?_
  refine x_iconst (v := (-1)) hM d_Mo_fairly_60 (by decide) ?_
  refine x_icmp_eq (tgt := 161) hM d_Mo_fairly_61 (by decide) (fun q31 => ?_) (fun q31 => ?_)
  · replace F := F.1 q31
    refine x_iinc (v := (v3 + 1)) (lv2 := [(3, .int (v3 + 1)), (0, .ref (ad (40, 0, 0))), (2, .int v2), (4, .int v4)]) hM d_Mo_fairly_161 (j := 2) rfl rfl (Nat.le_of_ble_eq_true rfl) rfl ?_
    refine x_goto (tgt := 40) hM d_Mo_fairly_164 (by decide) ?_
    refine x_sub [1, 2, 0] rfl ?_
    exact F _ _ hSt V
  · replace F := F.2 q31
    refine x_aload_n hM d_Mo_fairly_64 rfl 0 rfl ?_
    refine y_getr hG hM V ck_Mo 17 (Nat.le_of_ble_eq_true rfl) rfl rfl w_914 rfl d_Mo_fairly_65 (40, 0, 0) (41, 17, 0) rfl rfl rfl ?_
    refine x_iload hM d_Mo_fairly_68 3 rfl ?_
    obtain ⟨c4, F⟩ := F
    refine y_iaload hG hM V d_Mo_fairly_70 (41, 17, 0) rfl rfl (by rw [vlen V (r := (41, 17, 0)) rfl rfl]; exact c4) ?_
    refine x_bipush (v := 36) hM d_Mo_fairly_71 (by decide) ?_
    refine x_idiv hM d_Mo_fairly_73 (by decide) ?_
    refine x_istore (lv2 := [(5, .int ((iR ρ (41, 17, 0) (Int32.toNatClampNeg v4)) / 36)), (0, .ref (ad (40, 0, 0))), (2, .int v2), (3, .int v3), (4, .int v4)]) hM d_Mo_fairly_74 (Nat.le_of_ble_eq_true rfl) rfl ?_
    refine x_aload_n hM d_Mo_fairly_76 rfl 1 rfl ?_
    refine y_getr hG hM V ck_Mo 22 (Nat.le_of_ble_eq_true rfl) rfl rfl w_919 rfl d_Mo_fairly_77 (40, 0, 0) (41, 22, 0) rfl rfl rfl ?_
    refine x_iload hM d_Mo_fairly_80 0 rfl ?_
    obtain ⟨c5, F⟩ := F
    refine y_iaload hG hM V d_Mo_fairly_82 (41, 22, 0) rfl rfl (by rw [vlen V (r := (41, 22, 0)) rfl rfl]; exact c5) ?_
    refine x_iconst (v := (-1)) hM d_Mo_fairly_83 (by decide) ?_
    refine x_icmp_ne (tgt := 149) hM d_Mo_fairly_84 (by decide) (fun q30 => ?_) (fun q30 => ?_)
    · replace F := F.2 q30
      refine x_aload_n hM d_Mo_fairly_149 rfl 1 rfl ?_
      refine y_getr hG hM V ck_Mo 18 (Nat.le_of_ble_eq_true rfl) rfl rfl w_915 rfl d_Mo_fairly_150 (40, 0, 0) (41, 18, 0) rfl rfl rfl ?_
      refine x_iload hM d_Mo_fairly_153 4 rfl ?_
      obtain ⟨c8, F⟩ := F
      refine y_iaload hG hM V d_Mo_fairly_155 (41, 18, 0) rfl rfl (by rw [vlen V (r := (41, 18, 0)) rfl rfl]; exact c8) ?_
      refine x_istore (lv2 := [(4, .int (iR ρ (41, 18, 0) (Int32.toNatClampNeg v4))), (5, .int ((iR ρ (41, 17, 0) (Int32.toNatClampNeg v4)) / 36)), (0, .ref (ad (40, 0, 0))), (2, .int v2), (3, .int v3)]) hM d_Mo_fairly_156 (Nat.le_of_ble_eq_true rfl) rfl ?_
      refine x_goto (tgt := 58) hM d_Mo_fairly_158 (by decide) ?_
      refine x_sub [2, 3, 4, 0] rfl ?_
      exact F _ _ hSt V
    · replace F := F.1 q30
      refine x_aload_n hM d_Mo_fairly_87 rfl 1 rfl ?_
      refine y_getr hG hM V ck_Mo 25 (Nat.le_of_ble_eq_true rfl) rfl rfl w_922 rfl d_Mo_fairly_88 (40, 0, 0) (41, 25, 0) rfl rfl rfl ?_
      refine x_iload hM d_Mo_fairly_91 0 rfl ?_
      obtain ⟨c9, F⟩ := F
      refine y_zaload hG hM V d_Mo_fairly_93 (41, 25, 0) rfl rfl (by rw [vlen V (r := (41, 25, 0)) rfl rfl]; exact c9) ?_
      refine x_if_eq (tgt := 149) hM d_Mo_fairly_94 (by decide) (fun q29 => ?_) (fun q29 => ?_)
      · replace F := F.1 q29
        refine x_aload_n hM d_Mo_fairly_149 rfl 1 rfl ?_
        refine y_getr hG hM V ck_Mo 18 (Nat.le_of_ble_eq_true rfl) rfl rfl w_915 rfl d_Mo_fairly_150 (40, 0, 0) (41, 18, 0) rfl rfl rfl ?_
        refine x_iload hM d_Mo_fairly_153 4 rfl ?_
        obtain ⟨c11, F⟩ := F
        refine y_iaload hG hM V d_Mo_fairly_155 (41, 18, 0) rfl rfl (by rw [vlen V (r := (41, 18, 0)) rfl rfl]; exact c11) ?_
        refine x_istore (lv2 := [(4, .int (iR ρ (41, 18, 0) (Int32.toNatClampNeg v4))), (5, .int ((iR ρ (41, 17, 0) (Int32.toNatClampNeg v4)) / 36)), (0, .ref (ad (40, 0, 0))), (2, .int v2), (3, .int v3)]) hM d_Mo_fairly_156 (Nat.le_of_ble_eq_true rfl) rfl ?_
        refine x_goto (tgt := 58) hM d_Mo_fairly_158 (by decide) ?_
        refine x_sub [2, 3, 4, 0] rfl ?_
        exact F _ _ hSt V
      · replace F := F.2 q29
        refine x_aload_n hM d_Mo_fairly_97 rfl 1 rfl ?_
        refine x_iload hM d_Mo_fairly_98 0 rfl ?_
        refine x_aload_n hM d_Mo_fairly_100 rfl 1 rfl ?_
        refine y_getr hG hM V ck_Mo 17 (Nat.le_of_ble_eq_true rfl) rfl rfl w_914 rfl d_Mo_fairly_101 (40, 0, 0) (41, 17, 0) rfl rfl rfl ?_
        refine x_iload hM d_Mo_fairly_104 4 rfl ?_
        obtain ⟨c12, F⟩ := F
        refine y_iaload hG hM V d_Mo_fairly_106 (41, 17, 0) rfl rfl (by rw [vlen V (r := (41, 17, 0)) rfl rfl]; exact c12) ?_
        refine x_bipush (v := 36) hM d_Mo_fairly_107 (by decide) ?_
        refine x_irem hM d_Mo_fairly_109 (by decide) ?_
        refine x_iconst (v := 3) hM d_Mo_fairly_110 (by decide) ?_
        refine x_idiv hM d_Mo_fairly_111 (by decide) ?_
        refine x_callV hG hM (r' := r_Mo_staysWon) (ci := 11) [.int ((iR ρ (41, 17, 0) (Int32.toNatClampNeg v4)) / 36), .int (((iR ρ (41, 17, 0) (Int32.toNatClampNeg v4)) - (iR ρ (41, 17, 0) (Int32.toNatClampNeg v4)) / 36 * 36) / 3)] rfl rfl (Nat.le_of_ble_eq_true rfl) yk_Mo_staysWon ⟨Nat.le_of_ble_eq_true rfl, Nat.le_of_ble_eq_true rfl⟩ w_1136 w_1138 ws_Mo_staysWon rfl rfl (Nat.le_of_ble_eq_true rfl) d_Mo_fairly_112 (by rw [vT V rfl]; rfl) (sem_mono (F _ _ V) ?_)
        intro u14 h F
        obtain ⟨ad28, ρ13, V, hs15, F⟩ := F
        obtain ⟨x16, rfl, F⟩ := F
        have hs15 := (St_eq hs15).symm
        subst hs15
        refine x_if_eq (tgt := 149) hM d_Mo_fairly_115 (by decide) (fun q27 => ?_) (fun q27 => ?_)
        · replace F := F.1 q27
          refine x_aload_n hM d_Mo_fairly_149 rfl 1 rfl ?_
          refine y_getr hG hM V ck_Mo 18 (Nat.le_of_ble_eq_true rfl) rfl rfl w_915 rfl d_Mo_fairly_150 (40, 0, 0) (41, 18, 0) rfl rfl rfl ?_
          refine x_iload hM d_Mo_fairly_153 4 rfl ?_
          obtain ⟨c19, F⟩ := F
          refine y_iaload hG hM V d_Mo_fairly_155 (41, 18, 0) rfl rfl (by rw [vlen V (r := (41, 18, 0)) rfl rfl]; exact c19) ?_
          refine x_istore (lv2 := [(4, .int (iR ρ13 (41, 18, 0) (Int32.toNatClampNeg v4))), (5, .int ((iR ρ (41, 17, 0) (Int32.toNatClampNeg v4)) / 36)), (0, .ref (ad (40, 0, 0))), (2, .int v2), (3, .int v3)]) hM d_Mo_fairly_156 (Nat.le_of_ble_eq_true rfl) rfl ?_
          refine x_goto (tgt := 58) hM d_Mo_fairly_158 (by decide) ?_
          refine x_sub [2, 3, 4, 0] rfl ?_
          exact F _ _ hSt V
        · replace F := F.2 q27
          refine x_aload_n hM d_Mo_fairly_118 rfl 1 rfl ?_
          refine y_getr hG hM V ck_Mo 22 (Nat.le_of_ble_eq_true rfl) rfl rfl w_919 rfl d_Mo_fairly_119 (40, 0, 0) (41, 22, 0) rfl rfl rfl ?_
          refine x_iload hM d_Mo_fairly_122 0 rfl ?_
          refine x_aload_n hM d_Mo_fairly_124 rfl 1 rfl ?_
          refine y_getr hG hM V ck_Mo 22 (Nat.le_of_ble_eq_true rfl) rfl rfl w_919 rfl d_Mo_fairly_125 (40, 0, 0) (41, 22, 0) rfl rfl rfl ?_
          refine x_aload_n hM d_Mo_fairly_128 rfl 1 rfl ?_
          refine y_getr hG hM V ck_Mo 23 (Nat.le_of_ble_eq_true rfl) rfl rfl w_920 rfl d_Mo_fairly_129 (40, 0, 0) (41, 23, 0) rfl rfl rfl ?_
          refine x_iload_n hM d_Mo_fairly_132 rfl 3 rfl ?_
          obtain ⟨c20, F⟩ := F
          refine y_iaload hG hM V d_Mo_fairly_133 (41, 23, 0) rfl rfl (by rw [vlen V (r := (41, 23, 0)) rfl rfl]; exact c20) ?_
          obtain ⟨c21, F⟩ := F
          refine y_iaload hG hM V d_Mo_fairly_134 (41, 22, 0) rfl rfl (by rw [vlen V (r := (41, 22, 0)) rfl rfl]; exact c21) ?_
          refine x_iconst (v := 1) hM d_Mo_fairly_135 (by decide) ?_
          refine x_iadd hM d_Mo_fairly_136 ?_
          obtain ⟨c26, F⟩ := F
          obtain ⟨ρ22, eρ22⟩ : ∃ z : Rs, z = pI ρ13 (41, 22, 0) (Int32.toNatClampNeg ((iR ρ (41, 17, 0) (Int32.toNatClampNeg v4)) / 36)) ((iR ρ13 (41, 22, 0) (Int32.toNatClampNeg (iR ρ13 (41, 23, 0) (Int32.toNatClampNeg v3)))) + 1) := ⟨_, rfl⟩
          replace F := F ρ22 eρ22
          refine y_iastore hG hM V d_Mo_fairly_137 (41, 22, 0) rfl rfl (by rw [vlen V (r := (41, 22, 0)) rfl rfl]; exact c26) (fun h V => ?_)
          rw [← eρ22] at V
          clear eρ22
          refine x_aload_n hM d_Mo_fairly_138 rfl 1 rfl ?_
          refine y_getr hG hM V ck_Mo 23 (Nat.le_of_ble_eq_true rfl) rfl rfl w_920 rfl d_Mo_fairly_139 (40, 0, 0) (41, 23, 0) rfl rfl rfl ?_
          refine x_iload_n hM d_Mo_fairly_142 rfl 2 rfl ?_
          refine x_iload hM d_Mo_fairly_143 0 rfl ?_
          obtain ⟨c25, F⟩ := F
          obtain ⟨ρ23, eρ23⟩ : ∃ z : Rs, z = pI ρ22 (41, 23, 0) (Int32.toNatClampNeg v2) ((iR ρ (41, 17, 0) (Int32.toNatClampNeg v4)) / 36) := ⟨_, rfl⟩
          replace F := F ρ23 eρ23
          refine y_iastore hG hM V d_Mo_fairly_145 (41, 23, 0) rfl rfl (by rw [vlen V (r := (41, 23, 0)) rfl rfl]; exact c25) (fun h V => ?_)
          rw [← eρ23] at V
          clear eρ23
          refine x_iinc (v := (v2 + 1)) (lv2 := [(2, .int (v2 + 1)), (5, .int ((iR ρ (41, 17, 0) (Int32.toNatClampNeg v4)) / 36)), (0, .ref (ad (40, 0, 0))), (3, .int v3), (4, .int v4)]) hM d_Mo_fairly_146 (j := 2) rfl rfl (Nat.le_of_ble_eq_true rfl) rfl ?_
          refine x_aload_n hM d_Mo_fairly_149 rfl 2 rfl ?_
          refine y_getr hG hM V ck_Mo 18 (Nat.le_of_ble_eq_true rfl) rfl rfl w_915 rfl d_Mo_fairly_150 (40, 0, 0) (41, 18, 0) rfl rfl rfl ?_
          refine x_iload hM d_Mo_fairly_153 4 rfl ?_
          obtain ⟨c24, F⟩ := F
          refine y_iaload hG hM V d_Mo_fairly_155 (41, 18, 0) rfl rfl (by rw [vlen V (r := (41, 18, 0)) rfl rfl]; exact c24) ?_
          refine x_istore (lv2 := [(4, .int (iR ρ23 (41, 18, 0) (Int32.toNatClampNeg v4))), (2, .int (v2 + 1)), (5, .int ((iR ρ (41, 17, 0) (Int32.toNatClampNeg v4)) / 36)), (0, .ref (ad (40, 0, 0))), (3, .int v3)]) hM d_Mo_fairly_156 (Nat.le_of_ble_eq_true rfl) rfl ?_
          refine x_goto (tgt := 58) hM d_Mo_fairly_158 (by decide) ?_
          refine x_sub [3, 1, 4, 0] rfl ?_
          exact F _ _ hSt V
set_option maxRecDepth 100000 in
set_option maxHeartbeats 4000000 in
theorem T_Mo_fairly_171 {G : Gc} {M : Mc} {Q : State → Prop} {ad0 : Ro → Nat} {K : (Ro → Nat) → Option Value → Rs → Prop} (hG : gok G) (hM : mok G M r_Mo_fairly Q (KV G [] ad0 K)) (v1 : Int32) (v3 : Int32) (ρ : Rs) (F : ((iR ρ (40, 0, 0) 13) ≤ v3 → (Y G [] ad0 M Q 25 (fun ad => [(0, .ref (ad (40, 0, 0))), (1, .int v1)]) (fun ad => []) ρ)) ∧ (¬ (iR ρ (40, 0, 0) 13) ≤ v3 → ((v1 = 0 → (vp_in v3 4096 ∧ (¬ (iR ρ (41, 25, 0) (Int32.toNatClampNeg v3)) = 0 → vp_in v3 4096))) ∧ (∀ z4 : Int32, z4 = (if v1 = 0 then (if (iR ρ (41, 25, 0) (Int32.toNatClampNeg v3)) = 0 then 0 else (if (iR ρ (41, 22, 0) (Int32.toNatClampNeg v3)) = (-1) then 1 else 0)) else 1) → (vp_in v3 4096 ∧ (∀ z6 : Int32, z6 = (if (iR ρ (41, 22, 0) (Int32.toNatClampNeg v3)) = (-1) then 0 else 1) → (vp_in v3 4096 ∧ nb z6 ∧ (∀ ρ7 : Rs, ρ7 = pI ρ (41, 25, 0) (Int32.toNatClampNeg v3) z6 → (Y G [] ad0 M Q 171 (fun ad => [(0, .ref (ad (40, 0, 0))), (1, .int z4), (3, .int (v3 + 1))]) (fun ad => []) ρ7))))))))) : Y G [] ad0 M Q 171 (fun ad => [(0, .ref (ad (40, 0, 0))), (1, .int v1), (3, .int v3)]) (fun ad => []) ρ := by
  intro ad h hSt V
  show X G M Q 171 [(0, .ref (ad (40, 0, 0))), (1, .int v1), (3, .int v3)] [] h
  refine x_iload_n hM d_Mo_fairly_171 rfl 2 rfl ?_
  refine x_aload_n hM d_Mo_fairly_172 rfl 0 rfl ?_
  refine y_geti hG hM V ck_Mo 13 (Nat.le_of_ble_eq_true rfl) rfl rfl w_910 rfl d_Mo_fairly_173 (40, 0, 0) rfl rfl ?_
  refine x_icmp_ge (tgt := 235) hM d_Mo_fairly_176 (by decide) (fun q14 => ?_) (fun q14 => ?_)
  · replace F := F.1 q14
    refine x_goto (tgt := 25) hM d_Mo_fairly_235 (by decide) ?_
    refine x_sub [0, 1] rfl ?_
    exact F _ _ hSt V
  · replace F := F.2 q14
    refine x_iload_n hM d_Mo_fairly_179 rfl 1 rfl ?_
    obtain ⟨S, F⟩ := F
    have JJ : ∀ (z4 : Int32) (ez4 : z4 = (if v1 = 0 then (if (iR ρ (41, 25, 0) (Int32.toNatClampNeg v3)) = 0 then 0 else (if (iR ρ (41, 22, 0) (Int32.toNatClampNeg v3)) = (-1) then 1 else 0)) else 1)), X G M Q 207 [(0, .ref (ad (40, 0, 0))), (3, .int v3)] [.int z4] h := by
      intro z4 ez4
      replace F := F _ ez4
      refine x_istore_n (lv2 := [(1, .int z4), (0, .ref (ad (40, 0, 0))), (3, .int v3)]) hM d_Mo_fairly_207 rfl (Nat.le_of_ble_eq_true rfl) rfl ?_
      refine x_aload_n hM d_Mo_fairly_208 rfl 1 rfl ?_
      refine y_getr hG hM V ck_Mo 25 (Nat.le_of_ble_eq_true rfl) rfl rfl w_922 rfl d_Mo_fairly_209 (40, 0, 0) (41, 25, 0) rfl rfl rfl ?_
      refine x_iload_n hM d_Mo_fairly_212 rfl 2 rfl ?_
      refine x_aload_n hM d_Mo_fairly_213 rfl 1 rfl ?_
      refine y_getr hG hM V ck_Mo 22 (Nat.le_of_ble_eq_true rfl) rfl rfl w_919 rfl d_Mo_fairly_214 (40, 0, 0) (41, 22, 0) rfl rfl rfl ?_
      refine x_iload_n hM d_Mo_fairly_217 rfl 2 rfl ?_
      obtain ⟨c5, F⟩ := F
      refine y_iaload hG hM V d_Mo_fairly_218 (41, 22, 0) rfl rfl (by rw [vlen V (r := (41, 22, 0)) rfl rfl]; exact c5) ?_
      refine x_iconst (v := (-1)) hM d_Mo_fairly_219 (by decide) ?_
      have JJ : ∀ (z6 : Int32) (ez6 : z6 = (if (iR ρ (41, 22, 0) (Int32.toNatClampNeg v3)) = (-1) then 0 else 1)), X G M Q 228 [(0, .ref (ad (40, 0, 0))), (1, .int z4), (3, .int v3)] [.int z6, .int v3, .ref (ad (41, 25, 0))] h := by
        intro z6 ez6
        replace F := F _ ez6
        obtain ⟨c8, F⟩ := F
        obtain ⟨c9, F⟩ := F
        obtain ⟨ρ7, eρ7⟩ : ∃ z : Rs, z = pI ρ (41, 25, 0) (Int32.toNatClampNeg v3) z6 := ⟨_, rfl⟩
        replace F := F ρ7 eρ7
        refine y_zastore hG hM V d_Mo_fairly_228 (41, 25, 0) rfl rfl (by rw [vlen V (r := (41, 25, 0)) rfl rfl]; exact c8) c9 (fun h V => ?_)
        rw [← eρ7] at V
        clear eρ7
        refine x_iinc (v := (v3 + 1)) (lv2 := [(3, .int (v3 + 1)), (0, .ref (ad (40, 0, 0))), (1, .int z4)]) hM d_Mo_fairly_229 (j := 2) rfl rfl (Nat.le_of_ble_eq_true rfl) rfl ?_
        refine x_goto (tgt := 171) hM d_Mo_fairly_232 (by decide) ?_
        refine x_sub [1, 2, 0] rfl ?_
        exact F _ _ hSt V
      refine x_icmp_eq (tgt := 227) hM d_Mo_fairly_220 (by decide) (fun q10 => ?_) (fun q10 => ?_)
      · refine x_iconst (v := 0) hM d_Mo_fairly_227 (by decide) ?_
        refine x_sub [1, 0, 2] rfl ?_
        exact JJ _ (Eq.symm (if_pos q10))
      · refine x_iconst (v := 1) hM d_Mo_fairly_223 (by decide) ?_
        refine x_goto (tgt := 228) hM d_Mo_fairly_224 (by decide) ?_
        refine x_sub [1, 0, 2] rfl ?_
        exact JJ _ (Eq.symm (if_neg q10))
    refine x_if_ne (tgt := 202) hM d_Mo_fairly_180 (by decide) (fun q11 => ?_) (fun q11 => ?_)
    · refine x_iconst (v := 1) hM d_Mo_fairly_202 (by decide) ?_
      refine x_goto (tgt := 207) hM d_Mo_fairly_203 (by decide) ?_
      refine x_sub [0, 2] rfl ?_
      exact JJ _ (Eq.symm (if_neg q11))
    · replace S := S q11
      refine x_aload_n hM d_Mo_fairly_183 rfl 0 rfl ?_
      refine y_getr hG hM V ck_Mo 25 (Nat.le_of_ble_eq_true rfl) rfl rfl w_922 rfl d_Mo_fairly_184 (40, 0, 0) (41, 25, 0) rfl rfl rfl ?_
      refine x_iload_n hM d_Mo_fairly_187 rfl 2 rfl ?_
      obtain ⟨c2, S⟩ := S
      refine y_zaload hG hM V d_Mo_fairly_188 (41, 25, 0) rfl rfl (by rw [vlen V (r := (41, 25, 0)) rfl rfl]; exact c2) ?_
      refine x_if_eq (tgt := 206) hM d_Mo_fairly_189 (by decide) (fun q12 => ?_) (fun q12 => ?_)
      · refine x_iconst (v := 0) hM d_Mo_fairly_206 (by decide) ?_
        refine x_sub [0, 2] rfl ?_
        exact JJ _ (Eq.symm (Eq.trans (if_pos q11) (if_pos q12)))
      · replace S := S q12
        refine x_aload_n hM d_Mo_fairly_192 rfl 0 rfl ?_
        refine y_getr hG hM V ck_Mo 22 (Nat.le_of_ble_eq_true rfl) rfl rfl w_919 rfl d_Mo_fairly_193 (40, 0, 0) (41, 22, 0) rfl rfl rfl ?_
        refine x_iload_n hM d_Mo_fairly_196 rfl 2 rfl ?_
        have c3 := S
        refine y_iaload hG hM V d_Mo_fairly_197 (41, 22, 0) rfl rfl (by rw [vlen V (r := (41, 22, 0)) rfl rfl]; exact c3) ?_
        refine x_iconst (v := (-1)) hM d_Mo_fairly_198 (by decide) ?_
        refine x_icmp_ne (tgt := 206) hM d_Mo_fairly_199 (by decide) (fun q13 => ?_) (fun q13 => ?_)
        · refine x_iconst (v := 0) hM d_Mo_fairly_206 (by decide) ?_
          refine x_sub [0, 2] rfl ?_
          exact JJ _ (Eq.symm (Eq.trans (if_pos q11) (Eq.trans (if_neg q12) (if_neg q13))))
        · refine x_iconst (v := 1) hM d_Mo_fairly_202 (by decide) ?_
          refine x_goto (tgt := 207) hM d_Mo_fairly_203 (by decide) ?_
          refine x_sub [0, 2] rfl ?_
          exact JJ _ (Eq.symm (Eq.trans (if_pos q11) (Eq.trans (if_neg q12) (if_pos q13))))
set_option maxRecDepth 100000 in
set_option maxHeartbeats 4000000 in
theorem T_Mo_staysWon_0 {G : Gc} {M : Mc} {Q : State → Prop} {ad0 : Ro → Nat} {K : (Ro → Nat) → Option Value → Rs → Prop} (hG : gok G) (hM : mok G M r_Mo_staysWon Q (KV G [] ad0 K)) (v1 : Int32) (v2 : Int32) (ρ : Rs) (F : Y G [] ad0 M Q 5 (fun ad => [(0, .ref (ad (40, 0, 0))), (1, .int v1), (2, .int v2), (3, .int 1), (4, .int 0)]) (fun ad => []) ρ) : Y G [] ad0 M Q 0 (fun ad => [(0, .ref (ad (40, 0, 0))), (1, .int v1), (2, .int v2)]) (fun ad => []) ρ := by
  intro ad h hSt V
  show X G M Q 0 [(0, .ref (ad (40, 0, 0))), (1, .int v1), (2, .int v2)] [] h
  refine x_iconst (v := 1) hM d_Mo_staysWon_0 (by decide) ?_
  refine x_istore_n (lv2 := [(3, .int 1), (0, .ref (ad (40, 0, 0))), (1, .int v1), (2, .int v2)]) hM d_Mo_staysWon_1 rfl (Nat.le_of_ble_eq_true rfl) rfl ?_
  refine x_iconst (v := 0) hM d_Mo_staysWon_2 (by decide) ?_
  refine x_istore (lv2 := [(4, .int 0), (3, .int 1), (0, .ref (ad (40, 0, 0))), (1, .int v1), (2, .int v2)]) hM d_Mo_staysWon_3 (Nat.le_of_ble_eq_true rfl) rfl ?_
  refine x_sub [2, 3, 4, 1, 0] rfl ?_
  exact F _ _ hSt V
set_option maxRecDepth 100000 in
set_option maxHeartbeats 4000000 in
theorem T_Mo_staysWon_5 {G : Gc} {M : Mc} {Q : State → Prop} {ad0 : Ro → Nat} {K : (Ro → Nat) → Option Value → Rs → Prop} (hG : gok G) (hM : mok G M r_Mo_staysWon Q (KV G [] ad0 K)) (v1 : Int32) (v2 : Int32) (v3 : Int32) (v4 : Int32) (ρ : Rs) (F : vp_in v2 12 ∧ (((iR ρ (41, 4, 0) (Int32.toNatClampNeg v2)) ≤ v4 → (nb v3 ∧ (∀ ad, K ad (some (.int v3)) ρ))) ∧ (¬ (iR ρ (41, 4, 0) (Int32.toNatClampNeg v2)) ≤ v4 → (vp_in (((36 * v1) + (3 * v2)) + v4) 147456 ∧ ((¬ v3 = 0 → (¬ (iR ρ (41, 14, 0) (Int32.toNatClampNeg (((36 * v1) + (3 * v2)) + v4))) = (-1) → vp_in (iR ρ (41, 14, 0) (Int32.toNatClampNeg (((36 * v1) + (3 * v2)) + v4))) 4096)) ∧ (∀ z5 : Int32, z5 = (if v3 = 0 then 0 else (if (iR ρ (41, 14, 0) (Int32.toNatClampNeg (((36 * v1) + (3 * v2)) + v4))) = (-1) then 0 else (if (iR ρ (41, 25, 0) (Int32.toNatClampNeg (iR ρ (41, 14, 0) (Int32.toNatClampNeg (((36 * v1) + (3 * v2)) + v4))))) = 0 then 0 else 1))) → (Y G [] ad0 M Q 5 (fun ad => [(0, .ref (ad (40, 0, 0))), (1, .int v1), (2, .int v2), (3, .int z5), (4, .int (v4 + 1))]) (fun ad => []) ρ))))))) : Y G [] ad0 M Q 5 (fun ad => [(0, .ref (ad (40, 0, 0))), (1, .int v1), (2, .int v2), (3, .int v3), (4, .int v4)]) (fun ad => []) ρ := by
  intro ad h hSt V
  show X G M Q 5 [(0, .ref (ad (40, 0, 0))), (1, .int v1), (2, .int v2), (3, .int v3), (4, .int v4)] [] h
  refine x_iload hM d_Mo_staysWon_5 4 rfl ?_
  refine x_aload_n hM d_Mo_staysWon_7 rfl 0 rfl ?_
  refine y_getr hG hM V ck_Mo 4 (Nat.le_of_ble_eq_true rfl) rfl rfl w_901 rfl d_Mo_staysWon_8 (40, 0, 0) (41, 4, 0) rfl rfl rfl ?_
  refine x_iload_n hM d_Mo_staysWon_11 rfl 2 rfl ?_
  obtain ⟨c1, F⟩ := F
  refine y_iaload hG hM V d_Mo_staysWon_12 (41, 4, 0) rfl rfl (by rw [vlen V (r := (41, 4, 0)) rfl rfl]; exact c1) ?_
  refine x_icmp_ge (tgt := 66) hM d_Mo_staysWon_13 (by decide) (fun q9 => ?_) (fun q9 => ?_)
  · replace F := F.1 q9
    refine x_iload_n hM d_Mo_staysWon_66 rfl 3 rfl ?_
    exact x_zreturn hM d_Mo_staysWon_67 rfl F.1 (y_end V hSt (F.2 _))
  · replace F := F.2 q9
    refine x_aload_n hM d_Mo_staysWon_16 rfl 0 rfl ?_
    refine y_getr hG hM V ck_Mo 14 (Nat.le_of_ble_eq_true rfl) rfl rfl w_911 rfl d_Mo_staysWon_17 (40, 0, 0) (41, 14, 0) rfl rfl rfl ?_
    refine x_bipush (v := 36) hM d_Mo_staysWon_20 (by decide) ?_
    refine x_iload_n hM d_Mo_staysWon_22 rfl 1 rfl ?_
    refine x_imul hM d_Mo_staysWon_23 ?_
    refine x_iconst (v := 3) hM d_Mo_staysWon_24 (by decide) ?_
    refine x_iload_n hM d_Mo_staysWon_25 rfl 2 rfl ?_
    refine x_imul hM d_Mo_staysWon_26 ?_
    refine x_iadd hM d_Mo_staysWon_27 ?_
    refine x_iload hM d_Mo_staysWon_28 4 rfl ?_
    refine x_iadd hM d_Mo_staysWon_30 ?_
    obtain ⟨c3, F⟩ := F
    refine y_iaload hG hM V d_Mo_staysWon_31 (41, 14, 0) rfl rfl (by rw [vlen V (r := (41, 14, 0)) rfl rfl]; exact c3) ?_
    refine x_istore (lv2 := [(5, .int (iR ρ (41, 14, 0) (Int32.toNatClampNeg (((36 * v1) + (3 * v2)) + v4)))), (0, .ref (ad (40, 0, 0))), (1, .int v1), (2, .int v2), (3, .int v3), (4, .int v4)]) hM d_Mo_staysWon_32 (Nat.le_of_ble_eq_true rfl) rfl ?_
    refine x_iload_n hM d_Mo_staysWon_34 rfl 4 rfl ?_
    obtain ⟨S, F⟩ := F
    have JJ : ∀ (z5 : Int32) (ez5 : z5 = (if v3 = 0 then 0 else (if (iR ρ (41, 14, 0) (Int32.toNatClampNeg (((36 * v1) + (3 * v2)) + v4))) = (-1) then 0 else (if (iR ρ (41, 25, 0) (Int32.toNatClampNeg (iR ρ (41, 14, 0) (Int32.toNatClampNeg (((36 * v1) + (3 * v2)) + v4))))) = 0 then 0 else 1)))), X G M Q 59 [(0, .ref (ad (40, 0, 0))), (1, .int v1), (2, .int v2), (4, .int v4)] [.int z5] h := by
      intro z5 ez5
      replace F := F _ ez5
      refine x_istore_n (lv2 := [(3, .int z5), (0, .ref (ad (40, 0, 0))), (1, .int v1), (2, .int v2), (4, .int v4)]) hM d_Mo_staysWon_59 rfl (Nat.le_of_ble_eq_true rfl) rfl ?_
      refine x_iinc (v := (v4 + 1)) (lv2 := [(4, .int (v4 + 1)), (3, .int z5), (0, .ref (ad (40, 0, 0))), (1, .int v1), (2, .int v2)]) hM d_Mo_staysWon_60 (j := 4) rfl rfl (Nat.le_of_ble_eq_true rfl) rfl ?_
      refine x_goto (tgt := 5) hM d_Mo_staysWon_63 (by decide) ?_
      refine x_sub [2, 3, 4, 1, 0] rfl ?_
      exact F _ _ hSt V
    refine x_if_eq (tgt := 58) hM d_Mo_staysWon_35 (by decide) (fun q6 => ?_) (fun q6 => ?_)
    · refine x_iconst (v := 0) hM d_Mo_staysWon_58 (by decide) ?_
      refine x_sub [1, 2, 3, 5] rfl ?_
      exact JJ _ (Eq.symm (if_pos q6))
    · replace S := S q6
      refine x_iload hM d_Mo_staysWon_38 0 rfl ?_
      refine x_iconst (v := (-1)) hM d_Mo_staysWon_40 (by decide) ?_
      refine x_icmp_eq (tgt := 58) hM d_Mo_staysWon_41 (by decide) (fun q7 => ?_) (fun q7 => ?_)
      · refine x_iconst (v := 0) hM d_Mo_staysWon_58 (by decide) ?_
        refine x_sub [1, 2, 3, 5] rfl ?_
        exact JJ _ (Eq.symm (Eq.trans (if_neg q6) (if_pos q7)))
      · replace S := S q7
        refine x_aload_n hM d_Mo_staysWon_44 rfl 1 rfl ?_
        refine y_getr hG hM V ck_Mo 25 (Nat.le_of_ble_eq_true rfl) rfl rfl w_922 rfl d_Mo_staysWon_45 (40, 0, 0) (41, 25, 0) rfl rfl rfl ?_
        refine x_iload hM d_Mo_staysWon_48 0 rfl ?_
        have c4 := S
        refine y_zaload hG hM V d_Mo_staysWon_50 (41, 25, 0) rfl rfl (by rw [vlen V (r := (41, 25, 0)) rfl rfl]; exact c4) ?_
        refine x_if_eq (tgt := 58) hM d_Mo_staysWon_51 (by decide) (fun q8 => ?_) (fun q8 => ?_)
        · refine x_iconst (v := 0) hM d_Mo_staysWon_58 (by decide) ?_
          refine x_sub [1, 2, 3, 5] rfl ?_
          exact JJ _ (Eq.symm (Eq.trans (if_neg q6) (Eq.trans (if_neg q7) (if_pos q8))))
        · refine x_iconst (v := 1) hM d_Mo_staysWon_54 (by decide) ?_
          refine x_goto (tgt := 59) hM d_Mo_staysWon_55 (by decide) ?_
          refine x_sub [1, 2, 3, 5] rfl ?_
          exact JJ _ (Eq.symm (Eq.trans (if_neg q6) (Eq.trans (if_neg q7) (if_neg q8))))
