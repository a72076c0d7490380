theorem d_WP_plays_0 : decode b_WP_plays 0 = .ok (.aload_n 0, 1) := by decide +kernel
theorem d_WP_plays_1 : decode b_WP_plays 1 = .ok (.getfield 12, 3) := by decide +kernel
theorem d_WP_plays_4 : decode b_WP_plays 4 = .ok (.invokevirtual 166, 3) := by decide +kernel
theorem d_WP_plays_7 : decode b_WP_plays 7 = .ok (.aload_n 0, 1) := by decide +kernel
theorem d_WP_plays_8 : decode b_WP_plays 8 = .ok (.invokevirtual 172, 3) := by decide +kernel
theorem d_WP_plays_11 : decode b_WP_plays 11 = .ok (.aload_n 0, 1) := by decide +kernel
theorem d_WP_plays_12 : decode b_WP_plays 12 = .ok (.invokevirtual 178, 3) := by decide +kernel
theorem d_WP_plays_15 : decode b_WP_plays 15 = .ok (.sipush 4096, 3) := by decide +kernel
theorem d_WP_plays_18 : decode b_WP_plays 18 = .ok (.istore_n 1, 1) := by decide +kernel
theorem d_WP_plays_19 : decode b_WP_plays 19 = .ok (.lconst 0, 1) := by decide +kernel
theorem d_WP_plays_20 : decode b_WP_plays 20 = .ok (.lstore_n 2, 1) := by decide +kernel
theorem d_WP_plays_21 : decode b_WP_plays 21 = .ok (.iconst 0, 1) := by decide +kernel
theorem d_WP_plays_22 : decode b_WP_plays 22 = .ok (.istore 4, 2) := by decide +kernel
theorem d_WP_plays_24 : decode b_WP_plays 24 = .ok (.iload 4, 2) := by decide +kernel
theorem d_WP_plays_26 : decode b_WP_plays 26 = .ok (.aload_n 0, 1) := by decide +kernel
theorem d_WP_plays_27 : decode b_WP_plays 27 = .ok (.getfield 12, 3) := by decide +kernel
theorem d_WP_plays_30 : decode b_WP_plays 30 = .ok (.getfield 169, 3) := by decide +kernel
theorem d_WP_plays_33 : decode b_WP_plays 33 = .ok (.if_icmp .ge 84, 3) := by decide +kernel
theorem d_WP_plays_36 : decode b_WP_plays 36 = .ok (.aload_n 0, 1) := by decide +kernel
theorem d_WP_plays_37 : decode b_WP_plays 37 = .ok (.getfield 40, 3) := by decide +kernel
theorem d_WP_plays_40 : decode b_WP_plays 40 = .ok (.getfield 201, 3) := by decide +kernel
theorem d_WP_plays_43 : decode b_WP_plays 43 = .ok (.iload 4, 2) := by decide +kernel
theorem d_WP_plays_45 : decode b_WP_plays 45 = .ok (.iaload, 1) := by decide +kernel
theorem d_WP_plays_46 : decode b_WP_plays 46 = .ok (.istore 5, 2) := by decide +kernel
theorem d_WP_plays_48 : decode b_WP_plays 48 = .ok (.aload_n 0, 1) := by decide +kernel
theorem d_WP_plays_49 : decode b_WP_plays 49 = .ok (.getfield 47, 3) := by decide +kernel
theorem d_WP_plays_52 : decode b_WP_plays 52 = .ok (.getfield 228, 3) := by decide +kernel
theorem d_WP_plays_55 : decode b_WP_plays 55 = .ok (.iload 4, 2) := by decide +kernel
theorem d_WP_plays_57 : decode b_WP_plays 57 = .ok (.baload, 1) := by decide +kernel
theorem d_WP_plays_58 : decode b_WP_plays 58 = .ok (.ifCond .eq 53, 3) := by decide +kernel
theorem d_WP_plays_61 : decode b_WP_plays 61 = .ok (.iload 5, 2) := by decide +kernel
theorem d_WP_plays_63 : decode b_WP_plays 63 = .ok (.iconst (-1), 1) := by decide +kernel
theorem d_WP_plays_64 : decode b_WP_plays 64 = .ok (.if_icmp .eq 47, 3) := by decide +kernel
theorem d_WP_plays_67 : decode b_WP_plays 67 = .ok (.iload 5, 2) := by decide +kernel
theorem d_WP_plays_69 : decode b_WP_plays 69 = .ok (.iload_n 1, 1) := by decide +kernel
theorem d_WP_plays_70 : decode b_WP_plays 70 = .ok (.if_icmp .le 6, 3) := by decide +kernel
theorem d_WP_plays_73 : decode b_WP_plays 73 = .ok (.goto 38, 3) := by decide +kernel
theorem d_WP_plays_76 : decode b_WP_plays 76 = .ok (.iload 5, 2) := by decide +kernel
theorem d_WP_plays_78 : decode b_WP_plays 78 = .ok (.iload_n 1, 1) := by decide +kernel
theorem d_WP_plays_79 : decode b_WP_plays 79 = .ok (.if_icmp .ge 16, 3) := by decide +kernel
theorem d_WP_plays_82 : decode b_WP_plays 82 = .ok (.aload_n 0, 1) := by decide +kernel
theorem d_WP_plays_83 : decode b_WP_plays 83 = .ok (.getfield 40, 3) := by decide +kernel
theorem d_WP_plays_86 : decode b_WP_plays 86 = .ok (.getfield 231, 3) := by decide +kernel
theorem d_WP_plays_89 : decode b_WP_plays 89 = .ok (.iload 4, 2) := by decide +kernel
theorem d_WP_plays_91 : decode b_WP_plays 91 = .ok (.laload, 1) := by decide +kernel
theorem d_WP_plays_92 : decode b_WP_plays 92 = .ok (.goto 15, 3) := by decide +kernel
theorem d_WP_plays_95 : decode b_WP_plays 95 = .ok (.lload_n 2, 1) := by decide +kernel
theorem d_WP_plays_96 : decode b_WP_plays 96 = .ok (.aload_n 0, 1) := by decide +kernel
theorem d_WP_plays_97 : decode b_WP_plays 97 = .ok (.getfield 40, 3) := by decide +kernel
theorem d_WP_plays_100 : decode b_WP_plays 100 = .ok (.getfield 231, 3) := by decide +kernel
theorem d_WP_plays_103 : decode b_WP_plays 103 = .ok (.iload 4, 2) := by decide +kernel
theorem d_WP_plays_105 : decode b_WP_plays 105 = .ok (.laload, 1) := by decide +kernel
theorem d_WP_plays_106 : decode b_WP_plays 106 = .ok (.ladd, 1) := by decide +kernel
theorem d_WP_plays_107 : decode b_WP_plays 107 = .ok (.lstore_n 2, 1) := by decide +kernel
theorem d_WP_plays_108 : decode b_WP_plays 108 = .ok (.iload 5, 2) := by decide +kernel
theorem d_WP_plays_110 : decode b_WP_plays 110 = .ok (.istore_n 1, 1) := by decide +kernel
theorem d_WP_plays_111 : decode b_WP_plays 111 = .ok (.iinc 4 1, 3) := by decide +kernel
theorem d_WP_plays_114 : decode b_WP_plays 114 = .ok (.goto (-90), 3) := by decide +kernel
theorem d_WP_plays_117 : decode b_WP_plays 117 = .ok (.lload_n 2, 1) := by decide +kernel
theorem d_WP_plays_118 : decode b_WP_plays 118 = .ok (.lreturn, 1) := by decide +kernel
set_option maxRecDepth 100000 in
set_option maxHeartbeats 4000000 in
theorem S_WP_plays_0 {G : Gc} {M : Mc} {Q : State → Prop} {K : Option Value → Hp → Prop} (hG : gok G) (hM : mok G M r_WP_plays Q K) (v0 : Nat) (h : Hp) (F : kT h v0 = 1 ∧ kR h v0 0 = some (rf h v0 0) ∧ (kT h (rf h v0 0) = 2 ∧ sem G r_Wo_prepare [.ref (rf h v0 0)] h (fun u2 h1 => u2 = none ∧ (kT h1 v0 = 1 ∧ sem G r_WP_findReached [.ref v0] h1 (fun u4 h3 => u4 = none ∧ (kT h3 v0 = 1 ∧ sem G r_WP_findAim [.ref v0] h3 (fun u6 h5 => u6 = none ∧ X G M Q 24 [(0, .ref v0), (1, .int 4096), (2, .long 0), (4, .int 0)] [] h5))))))) : X G M Q 0 [(0, .ref v0)] [] h := by
  refine x_aload_n hM d_WP_plays_0 rfl 0 rfl ?_
  obtain ⟨c10, F⟩ := F
  obtain ⟨c11, F⟩ := F
  refine x_getr hG hM ck_WP 0 (Nat.le_of_ble_eq_true rfl) rfl rfl w_402 rfl d_WP_plays_1 c10 c11 ?_
  obtain ⟨c9, F⟩ := F
  refine x_callV hG hM (r' := r_Wo_prepare) (ci := 1) [] rfl rfl (Nat.le_of_ble_eq_true rfl) yk_Wo_prepare ⟨Nat.le_of_ble_eq_true rfl, Nat.le_of_ble_eq_true rfl⟩ w_577 w_578 w_579 rfl rfl (Nat.le_of_ble_eq_true rfl) d_WP_plays_4 c9 (sem_mono F ?_)
  intro u2 h1 F
  obtain ⟨rfl, F⟩ := F
  refine x_aload_n hM d_WP_plays_7 rfl 0 rfl ?_
  obtain ⟨c8, F⟩ := F
  refine x_callV hG hM (r' := r_WP_findReached) (ci := 0) [] rfl rfl (Nat.le_of_ble_eq_true rfl) yk_WP_findReached ⟨Nat.le_of_ble_eq_true rfl, Nat.le_of_ble_eq_true rfl⟩ w_616 w_618 ws_WP_findReached rfl rfl (Nat.le_of_ble_eq_true rfl) d_WP_plays_8 c8 (sem_mono F ?_)
  intro u4 h3 F
  obtain ⟨rfl, F⟩ := F
  refine x_aload_n hM d_WP_plays_11 rfl 0 rfl ?_
  obtain ⟨c7, F⟩ := F
  refine x_callV hG hM (r' := r_WP_findAim) (ci := 0) [] rfl rfl (Nat.le_of_ble_eq_true rfl) yk_WP_findAim ⟨Nat.le_of_ble_eq_true rfl, Nat.le_of_ble_eq_true rfl⟩ w_638 w_640 ws_WP_findAim rfl rfl (Nat.le_of_ble_eq_true rfl) d_WP_plays_12 c7 (sem_mono F ?_)
  intro u6 h5 F
  obtain ⟨rfl, F⟩ := F
  refine x_sipush (v := 4096) hM d_WP_plays_15 (by decide) ?_
  refine x_istore_n (lv2 := [(1, .int 4096), (0, .ref v0)]) hM d_WP_plays_18 rfl (Nat.le_of_ble_eq_true rfl) rfl ?_
  refine x_lconst (v := 0) hM d_WP_plays_19 (by decide) ?_
  refine x_lstore_n (lv2 := [(2, .long 0), (1, .int 4096), (0, .ref v0)]) hM d_WP_plays_20 rfl (Nat.le_of_ble_eq_true rfl) rfl ?_
  refine x_iconst (v := 0) hM d_WP_plays_21 (by decide) ?_
  refine x_istore (lv2 := [(4, .int 0), (2, .long 0), (1, .int 4096), (0, .ref v0)]) hM d_WP_plays_22 (Nat.le_of_ble_eq_true rfl) rfl ?_
  refine x_sub [3, 2, 1, 0] rfl ?_
  exact F
set_option maxRecDepth 100000 in
set_option maxHeartbeats 4000000 in
theorem S_WP_plays_24 {G : Gc} {M : Mc} {Q : State → Prop} {K : Option Value → Hp → Prop} (hG : gok G) (hM : mok G M r_WP_plays Q K) (v0 : Nat) (v1 : Int32) (v2 : Int64) (v4 : Int32) (h : Hp) (F : kT h v0 = 1 ∧ kR h v0 0 = some (rf h v0 0) ∧ (kT h (rf h v0 0) = 2 ∧ (((kI h (rf h v0 0) 1) ≤ v4 → K (some (.long v2)) h) ∧ (¬ (kI h (rf h v0 0) 1) ≤ v4 → (kT h v0 = 1 ∧ kR h v0 4 = some (rf h v0 4) ∧ (kT h (rf h v0 4) = 8 ∧ kR h (rf h v0 4) 0 = some (rf h (rf h v0 4) 0) ∧ (kT h (rf h (rf h v0 4) 0) = 50 ∧ vp_in v4 (kN h (rf h (rf h v0 4) 0)) ∧ (kT h v0 = 1 ∧ kR h v0 5 = some (rf h v0 5) ∧ (kT h (rf h v0 5) = 9 ∧ kR h (rf h v0 5) 0 = some (rf h (rf h v0 5) 0) ∧ (kT h (rf h (rf h v0 5) 0) = 51 ∧ vp_in v4 (kN h (rf h (rf h v0 5) 0)) ∧ ((¬ (kI h (rf h (rf h v0 5) 0) (Int32.toNatClampNeg v4)) = 0 → (¬ (kI h (rf h (rf h v0 4) 0) (Int32.toNatClampNeg v4)) = (-1) → ((kI h (rf h (rf h v0 4) 0) (Int32.toNatClampNeg v4)) ≤ v1 → ((v1 ≤ (kI h (rf h (rf h v0 4) 0) (Int32.toNatClampNeg v4)) → (kT h v0 = 1 ∧ kR h v0 4 = some (rf h v0 4) ∧ kT h (rf h v0 4) = 8 ∧ kR h (rf h v0 4) 1 = some (rf h (rf h v0 4) 1) ∧ kT h (rf h (rf h v0 4) 1) = 52 ∧ vp_in v4 (kN h (rf h (rf h v0 4) 1)))) ∧ (¬ v1 ≤ (kI h (rf h (rf h v0 4) 0) (Int32.toNatClampNeg v4)) → (kT h v0 = 1 ∧ kR h v0 4 = some (rf h v0 4) ∧ kT h (rf h v0 4) = 8 ∧ kR h (rf h v0 4) 1 = some (rf h (rf h v0 4) 1) ∧ kT h (rf h (rf h v0 4) 1) = 52 ∧ vp_in v4 (kN h (rf h (rf h v0 4) 1)))))))) ∧ (∀ z1 : Int32, z1 = (if (kI h (rf h (rf h v0 5) 0) (Int32.toNatClampNeg v4)) = 0 then v1 else (if (kI h (rf h (rf h v0 4) 0) (Int32.toNatClampNeg v4)) = (-1) then v1 else (if (kI h (rf h (rf h v0 4) 0) (Int32.toNatClampNeg v4)) ≤ v1 then (kI h (rf h (rf h v0 4) 0) (Int32.toNatClampNeg v4)) else v1))) → (∀ z2 : Int64, z2 = (if (kI h (rf h (rf h v0 5) 0) (Int32.toNatClampNeg v4)) = 0 then v2 else (if (kI h (rf h (rf h v0 4) 0) (Int32.toNatClampNeg v4)) = (-1) then v2 else (if (kI h (rf h (rf h v0 4) 0) (Int32.toNatClampNeg v4)) ≤ v1 then (if v1 ≤ (kI h (rf h (rf h v0 4) 0) (Int32.toNatClampNeg v4)) then (v2 + (kL h (rf h (rf h v0 4) 1) (Int32.toNatClampNeg v4))) else (kL h (rf h (rf h v0 4) 1) (Int32.toNatClampNeg v4))) else v2))) → X G M Q 24 [(0, .ref v0), (1, .int z1), (2, .long z2), (4, .int (v4 + 1))] [] h))))))))))))) : X G M Q 24 [(0, .ref v0), (1, .int v1), (2, .long v2), (4, .int v4)] [] h := by
  refine x_iload hM d_WP_plays_24 3 rfl ?_
  refine x_aload_n hM d_WP_plays_26 rfl 0 rfl ?_
  obtain ⟨c33, F⟩ := F
  obtain ⟨c34, F⟩ := F
  refine x_getr hG hM ck_WP 0 (Nat.le_of_ble_eq_true rfl) rfl rfl w_402 rfl d_WP_plays_27 c33 c34 ?_
  obtain ⟨c32, F⟩ := F
  refine x_geti hG hM ck_Wo 1 (Nat.le_of_ble_eq_true rfl) rfl rfl w_132 rfl d_WP_plays_30 c32 ?_
  refine x_icmp_ge (tgt := 117) hM d_WP_plays_33 (by decide) (fun q31 => ?_) (fun q31 => ?_)
  · replace F := F.1 q31
    refine x_lload_n hM d_WP_plays_117 rfl 2 rfl ?_
    exact x_lreturn hM d_WP_plays_118 rfl F
  · replace F := F.2 q31
    refine x_aload_n hM d_WP_plays_36 rfl 0 rfl ?_
    obtain ⟨c29, F⟩ := F
    obtain ⟨c30, F⟩ := F
    refine x_getr hG hM ck_WP 4 (Nat.le_of_ble_eq_true rfl) rfl rfl w_406 rfl d_WP_plays_37 c29 c30 ?_
    obtain ⟨c27, F⟩ := F
    obtain ⟨c28, F⟩ := F
    refine x_getr hG hM ck_Re 0 (Nat.le_of_ble_eq_true rfl) rfl rfl w_257 rfl d_WP_plays_40 c27 c28 ?_
    refine x_iload hM d_WP_plays_43 3 rfl ?_
    obtain ⟨c25, F⟩ := F
    obtain ⟨c26, F⟩ := F
    refine x_iaload hG hM d_WP_plays_45 c25 c26 ?_
    refine x_istore (lv2 := [(5, .int (kI h (rf h (rf h v0 4) 0) (Int32.toNatClampNeg v4))), (0, .ref v0), (1, .int v1), (2, .long v2), (4, .int v4)]) hM d_WP_plays_46 (Nat.le_of_ble_eq_true rfl) rfl ?_
    refine x_aload_n hM d_WP_plays_48 rfl 1 rfl ?_
    obtain ⟨c23, F⟩ := F
    obtain ⟨c24, F⟩ := F
    refine x_getr hG hM ck_WP 5 (Nat.le_of_ble_eq_true rfl) rfl rfl w_407 rfl d_WP_plays_49 c23 c24 ?_
    obtain ⟨c21, F⟩ := F
    obtain ⟨c22, F⟩ := F
    refine x_getr hG hM ck_Wi 0 (Nat.le_of_ble_eq_true rfl) rfl rfl w_284 rfl d_WP_plays_52 c21 c22 ?_
    refine x_iload hM d_WP_plays_55 4 rfl ?_
    obtain ⟨c19, F⟩ := F
    obtain ⟨c20, F⟩ := F
    refine x_zaload hG hM d_WP_plays_57 c19 c20 ?_
    obtain ⟨S, F⟩ := F
    have JJ : ∀ (z1 : Int32) (ez1 : z1 = (if (kI h (rf h (rf h v0 5) 0) (Int32.toNatClampNeg v4)) = 0 then v1 else (if (kI h (rf h (rf h v0 4) 0) (Int32.toNatClampNeg v4)) = (-1) then v1 else (if (kI h (rf h (rf h v0 4) 0) (Int32.toNatClampNeg v4)) ≤ v1 then (kI h (rf h (rf h v0 4) 0) (Int32.toNatClampNeg v4)) else v1)))) (z2 : Int64) (ez2 : z2 = (if (kI h (rf h (rf h v0 5) 0) (Int32.toNatClampNeg v4)) = 0 then v2 else (if (kI h (rf h (rf h v0 4) 0) (Int32.toNatClampNeg v4)) = (-1) then v2 else (if (kI h (rf h (rf h v0 4) 0) (Int32.toNatClampNeg v4)) ≤ v1 then (if v1 ≤ (kI h (rf h (rf h v0 4) 0) (Int32.toNatClampNeg v4)) then (v2 + (kL h (rf h (rf h v0 4) 1) (Int32.toNatClampNeg v4))) else (kL h (rf h (rf h v0 4) 1) (Int32.toNatClampNeg v4))) else v2)))), X G M Q 111 [(0, .ref v0), (1, .int z1), (2, .long z2), (4, .int v4)] [] h := by
      intro z1 ez1 z2 ez2
      replace F := F _ ez1 _ ez2
      refine x_iinc (v := (v4 + 1)) (lv2 := [(4, .int (v4 + 1)), (0, .ref v0), (1, .int z1), (2, .long z2)]) hM d_WP_plays_111 (j := 3) rfl rfl (Nat.le_of_ble_eq_true rfl) rfl ?_
      refine x_goto (tgt := 24) hM d_WP_plays_114 (by decide) ?_
      refine x_sub [1, 2, 3, 0] rfl ?_
      exact F
    refine x_if_eq (tgt := 111) hM d_WP_plays_58 (by decide) (fun q3 => ?_) (fun q3 => ?_)
    · refine x_sub [1, 2, 3, 4] rfl ?_
      exact JJ _ (Eq.symm (if_pos q3)) _ (Eq.symm (if_pos q3))
    · replace S := S q3
      refine x_iload hM d_WP_plays_61 0 rfl ?_
      refine x_iconst (v := (-1)) hM d_WP_plays_63 (by decide) ?_
      refine x_icmp_eq (tgt := 111) hM d_WP_plays_64 (by decide) (fun q4 => ?_) (fun q4 => ?_)
      · refine x_sub [1, 2, 3, 4] rfl ?_
        exact JJ _ (Eq.symm (Eq.trans (if_neg q3) (if_pos q4))) _ (Eq.symm (Eq.trans (if_neg q3) (if_pos q4)))
      · replace S := S q4
        refine x_iload hM d_WP_plays_67 0 rfl ?_
        refine x_iload_n hM d_WP_plays_69 rfl 2 rfl ?_
        refine x_icmp_le (tgt := 76) hM d_WP_plays_70 (by decide) (fun q5 => ?_) (fun q5 => ?_)
        · replace S := S q5
          refine x_iload hM d_WP_plays_76 0 rfl ?_
          refine x_iload_n hM d_WP_plays_78 rfl 2 rfl ?_
          refine x_icmp_ge (tgt := 95) hM d_WP_plays_79 (by decide) (fun q6 => ?_) (fun q6 => ?_)
          · replace S := S.1 q6
            refine x_lload_n hM d_WP_plays_95 rfl 3 rfl ?_
            refine x_aload_n hM d_WP_plays_96 rfl 1 rfl ?_
            obtain ⟨c7, S⟩ := S
            obtain ⟨c8, S⟩ := S
            refine x_getr hG hM ck_WP 4 (Nat.le_of_ble_eq_true rfl) rfl rfl w_406 rfl d_WP_plays_97 c7 c8 ?_
            obtain ⟨c9, S⟩ := S
            obtain ⟨c10, S⟩ := S
            refine x_getr hG hM ck_Re 1 (Nat.le_of_ble_eq_true rfl) rfl rfl w_259 rfl d_WP_plays_100 c9 c10 ?_
            refine x_iload hM d_WP_plays_103 4 rfl ?_
            obtain ⟨c11, S⟩ := S
            have c12 := S
            refine x_laload hG hM d_WP_plays_105 c11 c12 ?_
            refine x_ladd hM d_WP_plays_106 ?_
            refine x_lstore_n (lv2 := [(2, .long (v2 + (kL h (rf h (rf h v0 4) 1) (Int32.toNatClampNeg v4)))), (5, .int (kI h (rf h (rf h v0 4) 0) (Int32.toNatClampNeg v4))), (0, .ref v0), (1, .int v1), (4, .int v4)]) hM d_WP_plays_107 rfl (Nat.le_of_ble_eq_true rfl) rfl ?_
            refine x_iload hM d_WP_plays_108 1 rfl ?_
            refine x_istore_n (lv2 := [(1, .int (kI h (rf h (rf h v0 4) 0) (Int32.toNatClampNeg v4))), (2, .long (v2 + (kL h (rf h (rf h v0 4) 1) (Int32.toNatClampNeg v4)))), (5, .int (kI h (rf h (rf h v0 4) 0) (Int32.toNatClampNeg v4))), (0, .ref v0), (4, .int v4)]) hM d_WP_plays_110 rfl (Nat.le_of_ble_eq_true rfl) rfl ?_
            refine x_sub [3, 0, 1, 4] rfl ?_
            exact JJ _ (Eq.symm (Eq.trans (if_neg q3) (Eq.trans (if_neg q4) (if_pos q5)))) _ (Eq.symm (Eq.trans (if_neg q3) (Eq.trans (if_neg q4) (Eq.trans (if_pos q5) (if_pos q6)))))
          · replace S := S.2 q6
            refine x_aload_n hM d_WP_plays_82 rfl 1 rfl ?_
            obtain ⟨c13, S⟩ := S
            obtain ⟨c14, S⟩ := S
            refine x_getr hG hM ck_WP 4 (Nat.le_of_ble_eq_true rfl) rfl rfl w_406 rfl d_WP_plays_83 c13 c14 ?_
            obtain ⟨c15, S⟩ := S
            obtain ⟨c16, S⟩ := S
            refine x_getr hG hM ck_Re 1 (Nat.le_of_ble_eq_true rfl) rfl rfl w_259 rfl d_WP_plays_86 c15 c16 ?_
            refine x_iload hM d_WP_plays_89 4 rfl ?_
            obtain ⟨c17, S⟩ := S
            have c18 := S
            refine x_laload hG hM d_WP_plays_91 c17 c18 ?_
            refine x_goto (tgt := 107) hM d_WP_plays_92 (by decide) ?_
            refine x_lstore_n (lv2 := [(2, .long (kL h (rf h (rf h v0 4) 1) (Int32.toNatClampNeg v4))), (5, .int (kI h (rf h (rf h v0 4) 0) (Int32.toNatClampNeg v4))), (0, .ref v0), (1, .int v1), (4, .int v4)]) hM d_WP_plays_107 rfl (Nat.le_of_ble_eq_true rfl) rfl ?_
            refine x_iload hM d_WP_plays_108 1 rfl ?_
            refine x_istore_n (lv2 := [(1, .int (kI h (rf h (rf h v0 4) 0) (Int32.toNatClampNeg v4))), (2, .long (kL h (rf h (rf h v0 4) 1) (Int32.toNatClampNeg v4))), (5, .int (kI h (rf h (rf h v0 4) 0) (Int32.toNatClampNeg v4))), (0, .ref v0), (4, .int v4)]) hM d_WP_plays_110 rfl (Nat.le_of_ble_eq_true rfl) rfl ?_
            refine x_sub [3, 0, 1, 4] rfl ?_
            exact JJ _ (Eq.symm (Eq.trans (if_neg q3) (Eq.trans (if_neg q4) (if_pos q5)))) _ (Eq.symm (Eq.trans (if_neg q3) (Eq.trans (if_neg q4) (Eq.trans (if_pos q5) (if_neg q6)))))
        · refine x_goto (tgt := 111) hM d_WP_plays_73 (by decide) ?_
          refine x_sub [1, 2, 3, 4] rfl ?_
          exact JJ _ (Eq.symm (Eq.trans (if_neg q3) (Eq.trans (if_neg q4) (if_neg q5)))) _ (Eq.symm (Eq.trans (if_neg q3) (Eq.trans (if_neg q4) (if_neg q5))))
theorem d_WP_needed_0 : decode b_WP_needed 0 = .ok (.aload_n 0, 1) := by decide +kernel
theorem d_WP_needed_1 : decode b_WP_needed 1 = .ok (.getfield 12, 3) := by decide +kernel
theorem d_WP_needed_4 : decode b_WP_needed 4 = .ok (.invokevirtual 166, 3) := by decide +kernel
theorem d_WP_needed_7 : decode b_WP_needed 7 = .ok (.aload_n 0, 1) := by decide +kernel
theorem d_WP_needed_8 : decode b_WP_needed 8 = .ok (.invokevirtual 178, 3) := by decide +kernel
theorem d_WP_needed_11 : decode b_WP_needed 11 = .ok (.aload_n 0, 1) := by decide +kernel
theorem d_WP_needed_12 : decode b_WP_needed 12 = .ok (.getfield 72, 3) := by decide +kernel
theorem d_WP_needed_15 : decode b_WP_needed 15 = .ok (.aload_n 0, 1) := by decide +kernel
theorem d_WP_needed_16 : decode b_WP_needed 16 = .ok (.getfield 33, 3) := by decide +kernel
theorem d_WP_needed_19 : decode b_WP_needed 19 = .ok (.getfield 235, 3) := by decide +kernel
theorem d_WP_needed_22 : decode b_WP_needed 22 = .ok (.lcmp, 1) := by decide +kernel
theorem d_WP_needed_23 : decode b_WP_needed 23 = .ok (.ifCond .ge 78, 3) := by decide +kernel
theorem d_WP_needed_26 : decode b_WP_needed 26 = .ok (.aload_n 0, 1) := by decide +kernel
theorem d_WP_needed_27 : decode b_WP_needed 27 = .ok (.iconst 0, 1) := by decide +kernel
theorem d_WP_needed_28 : decode b_WP_needed 28 = .ok (.putfield 69, 3) := by decide +kernel
theorem d_WP_needed_31 : decode b_WP_needed 31 = .ok (.iconst 0, 1) := by decide +kernel
theorem d_WP_needed_32 : decode b_WP_needed 32 = .ok (.istore_n 1, 1) := by decide +kernel
theorem d_WP_needed_33 : decode b_WP_needed 33 = .ok (.iload_n 1, 1) := by decide +kernel
theorem d_WP_needed_34 : decode b_WP_needed 34 = .ok (.aload_n 0, 1) := by decide +kernel
theorem d_WP_needed_35 : decode b_WP_needed 35 = .ok (.getfield 12, 3) := by decide +kernel
theorem d_WP_needed_38 : decode b_WP_needed 38 = .ok (.getfield 89, 3) := by decide +kernel
theorem d_WP_needed_41 : decode b_WP_needed 41 = .ok (.if_icmp .ge 49, 3) := by decide +kernel
theorem d_WP_needed_44 : decode b_WP_needed 44 = .ok (.aload_n 0, 1) := by decide +kernel
theorem d_WP_needed_45 : decode b_WP_needed 45 = .ok (.getfield 61, 3) := by decide +kernel
theorem d_WP_needed_48 : decode b_WP_needed 48 = .ok (.aload_n 0, 1) := by decide +kernel
theorem d_WP_needed_49 : decode b_WP_needed 49 = .ok (.getfield 12, 3) := by decide +kernel
theorem d_WP_needed_52 : decode b_WP_needed 52 = .ok (.aload_n 0, 1) := by decide +kernel
theorem d_WP_needed_53 : decode b_WP_needed 53 = .ok (.getfield 47, 3) := by decide +kernel
theorem d_WP_needed_56 : decode b_WP_needed 56 = .ok (.getfield 228, 3) := by decide +kernel
theorem d_WP_needed_59 : decode b_WP_needed 59 = .ok (.aload_n 0, 1) := by decide +kernel
theorem d_WP_needed_60 : decode b_WP_needed 60 = .ok (.getfield 65, 3) := by decide +kernel
theorem d_WP_needed_63 : decode b_WP_needed 63 = .ok (.iload_n 1, 1) := by decide +kernel
theorem d_WP_needed_64 : decode b_WP_needed 64 = .ok (.iconst (-1), 1) := by decide +kernel
theorem d_WP_needed_65 : decode b_WP_needed 65 = .ok (.iconst (-1), 1) := by decide +kernel
theorem d_WP_needed_66 : decode b_WP_needed 66 = .ok (.invokevirtual 238, 3) := by decide +kernel
theorem d_WP_needed_69 : decode b_WP_needed 69 = .ok (.ifCond .ne 15, 3) := by decide +kernel
theorem d_WP_needed_72 : decode b_WP_needed 72 = .ok (.aload_n 0, 1) := by decide +kernel
theorem d_WP_needed_73 : decode b_WP_needed 73 = .ok (.dup, 1) := by decide +kernel
theorem d_WP_needed_74 : decode b_WP_needed 74 = .ok (.getfield 69, 3) := by decide +kernel
theorem d_WP_needed_77 : decode b_WP_needed 77 = .ok (.iconst 1, 1) := by decide +kernel
theorem d_WP_needed_78 : decode b_WP_needed 78 = .ok (.iload_n 1, 1) := by decide +kernel
theorem d_WP_needed_79 : decode b_WP_needed 79 = .ok (.ishl, 1) := by decide +kernel
theorem d_WP_needed_80 : decode b_WP_needed 80 = .ok (.ior, 1) := by decide +kernel
theorem d_WP_needed_81 : decode b_WP_needed 81 = .ok (.putfield 69, 3) := by decide +kernel
theorem d_WP_needed_84 : decode b_WP_needed 84 = .ok (.iinc 1 1, 3) := by decide +kernel
theorem d_WP_needed_87 : decode b_WP_needed 87 = .ok (.goto (-54), 3) := by decide +kernel
theorem d_WP_needed_90 : decode b_WP_needed 90 = .ok (.aload_n 0, 1) := by decide +kernel
theorem d_WP_needed_91 : decode b_WP_needed 91 = .ok (.aload_n 0, 1) := by decide +kernel
theorem d_WP_needed_92 : decode b_WP_needed 92 = .ok (.getfield 33, 3) := by decide +kernel
theorem d_WP_needed_95 : decode b_WP_needed 95 = .ok (.getfield 235, 3) := by decide +kernel
theorem d_WP_needed_98 : decode b_WP_needed 98 = .ok (.putfield 72, 3) := by decide +kernel
theorem d_WP_needed_101 : decode b_WP_needed 101 = .ok (.aload_n 0, 1) := by decide +kernel
theorem d_WP_needed_102 : decode b_WP_needed 102 = .ok (.getfield 69, 3) := by decide +kernel
theorem d_WP_needed_105 : decode b_WP_needed 105 = .ok (.ireturn, 1) := by decide +kernel
set_option maxRecDepth 100000 in
set_option maxHeartbeats 4000000 in
theorem S_WP_needed_0 {G : Gc} {M : Mc} {Q : State → Prop} {K : Option Value → Hp → Prop} (hG : gok G) (hM : mok G M r_WP_needed Q K) (v0 : Nat) (h : Hp) (F : kT h v0 = 1 ∧ kR h v0 0 = some (rf h v0 0) ∧ (kT h (rf h v0 0) = 2 ∧ sem G r_Wo_prepare [.ref (rf h v0 0)] h (fun u2 h1 => u2 = none ∧ (kT h1 v0 = 1 ∧ sem G r_WP_findAim [.ref v0] h1 (fun u4 h3 => u4 = none ∧ (kT h3 v0 = 1 ∧ (kT h3 v0 = 1 ∧ kR h3 v0 3 = some (rf h3 v0 3) ∧ (kT h3 (rf h3 v0 3) = 7 ∧ ((0 ≤ (lg_cmp (kL h3 v0 10) (kL h3 (rf h3 v0 3) 0)) → (kT h3 v0 = 1 ∧ K (some (.int (kI h3 v0 9))) h3)) ∧ (¬ 0 ≤ (lg_cmp (kL h3 v0 10) (kL h3 (rf h3 v0 3) 0)) → (kT h3 v0 = 1 ∧ (∀ h6 : Hp, h6 = wI h3 v0 9 0 → X G M Q 33 [(0, .ref v0), (1, .int 0)] [] h6)))))))))))) : X G M Q 0 [(0, .ref v0)] [] h := by
  refine x_aload_n hM d_WP_needed_0 rfl 0 rfl ?_
  obtain ⟨c15, F⟩ := F
  obtain ⟨c16, F⟩ := F
  refine x_getr hG hM ck_WP 0 (Nat.le_of_ble_eq_true rfl) rfl rfl w_402 rfl d_WP_needed_1 c15 c16 ?_
  obtain ⟨c14, F⟩ := F
  refine x_callV hG hM (r' := r_Wo_prepare) (ci := 1) [] rfl rfl (Nat.le_of_ble_eq_true rfl) yk_Wo_prepare ⟨Nat.le_of_ble_eq_true rfl, Nat.le_of_ble_eq_true rfl⟩ w_577 w_578 w_579 rfl rfl (Nat.le_of_ble_eq_true rfl) d_WP_needed_4 c14 (sem_mono F ?_)
  intro u2 h1 F
  obtain ⟨rfl, F⟩ := F
  refine x_aload_n hM d_WP_needed_7 rfl 0 rfl ?_
  obtain ⟨c13, F⟩ := F
  refine x_callV hG hM (r' := r_WP_findAim) (ci := 0) [] rfl rfl (Nat.le_of_ble_eq_true rfl) yk_WP_findAim ⟨Nat.le_of_ble_eq_true rfl, Nat.le_of_ble_eq_true rfl⟩ w_638 w_640 ws_WP_findAim rfl rfl (Nat.le_of_ble_eq_true rfl) d_WP_needed_8 c13 (sem_mono F ?_)
  intro u4 h3 F
  obtain ⟨rfl, F⟩ := F
  refine x_aload_n hM d_WP_needed_11 rfl 0 rfl ?_
  obtain ⟨c12, F⟩ := F
  refine x_getl hG hM ck_WP 10 (Nat.le_of_ble_eq_true rfl) rfl rfl w_412 rfl d_WP_needed_12 c12 ?_
  refine x_aload_n hM d_WP_needed_15 rfl 0 rfl ?_
  obtain ⟨c10, F⟩ := F
  obtain ⟨c11, F⟩ := F
  refine x_getr hG hM ck_WP 3 (Nat.le_of_ble_eq_true rfl) rfl rfl w_405 rfl d_WP_needed_16 c10 c11 ?_
  obtain ⟨c9, F⟩ := F
  refine x_getl hG hM ck_Ch 0 (Nat.le_of_ble_eq_true rfl) rfl rfl w_234 rfl d_WP_needed_19 c9 ?_
  refine x_lcmp hM d_WP_needed_22 ?_
  refine x_if_ge (tgt := 101) hM d_WP_needed_23 (by decide) (fun q8 => ?_) (fun q8 => ?_)
  · replace F := F.1 q8
    refine x_aload_n hM d_WP_needed_101 rfl 0 rfl ?_
    obtain ⟨c5, F⟩ := F
    refine x_geti hG hM ck_WP 9 (Nat.le_of_ble_eq_true rfl) rfl rfl w_411 rfl d_WP_needed_102 c5 ?_
    exact x_ireturn hM d_WP_needed_105 rfl F
  · replace F := F.2 q8
    refine x_aload_n hM d_WP_needed_26 rfl 0 rfl ?_
    refine x_iconst (v := 0) hM d_WP_needed_27 (by decide) ?_
    obtain ⟨c7, F⟩ := F
    obtain ⟨h6, eh6⟩ : ∃ z : Hp, z = wI h3 v0 9 0 := ⟨_, rfl⟩
    replace F := F h6 eh6
    refine x_puti hG hM ck_WP 9 (Nat.le_of_ble_eq_true rfl) rfl rfl w_411 rfl d_WP_needed_28 (Or.inl rfl) c7 ?_
    rw [← eh6]
    clear eh6
    refine x_iconst (v := 0) hM d_WP_needed_31 (by decide) ?_
    refine x_istore_n (lv2 := [(1, .int 0), (0, .ref v0)]) hM d_WP_needed_32 rfl (Nat.le_of_ble_eq_true rfl) rfl ?_
    refine x_sub [1, 0] rfl ?_
    exact F
set_option maxRecDepth 100000 in
set_option maxHeartbeats 4000000 in
theorem S_WP_needed_33 {G : Gc} {M : Mc} {Q : State → Prop} {K : Option Value → Hp → Prop} (hG : gok G) (hM : mok G M r_WP_needed Q K) (v0 : Nat) (v1 : Int32) (h : Hp) (F : kT h v0 = 1 ∧ kR h v0 0 = some (rf h v0 0) ∧ (kT h (rf h v0 0) = 2 ∧ (((kI h (rf h v0 0) 2) ≤ v1 → (kT h v0 = 1 ∧ kR h v0 3 = some (rf h v0 3) ∧ (kT h (rf h v0 3) = 7 ∧ (kT h v0 = 1 ∧ (∀ h1 : Hp, h1 = wL h v0 10 (kL h (rf h v0 3) 0) → (kT h1 v0 = 1 ∧ K (some (.int (kI h1 v0 9))) h1)))))) ∧ (¬ (kI h (rf h v0 0) 2) ≤ v1 → (kT h v0 = 1 ∧ kR h v0 7 = some (rf h v0 7) ∧ (kT h v0 = 1 ∧ kR h v0 0 = some (rf h v0 0) ∧ (kT h v0 = 1 ∧ kR h v0 5 = some (rf h v0 5) ∧ (kT h (rf h v0 5) = 9 ∧ kR h (rf h v0 5) 0 = some (rf h (rf h v0 5) 0) ∧ (kT h v0 = 1 ∧ (kT h (rf h v0 7) = 11 ∧ sem G r_Se_wins [.ref (rf h v0 7), .ref (rf h v0 0), .ref (rf h (rf h v0 5) 0), .int (kI h v0 8), .int v1, .int (-1), .int (-1)] h (fun u8 h7 => ∃ x9 : Int32, u8 = some (.int x9) ∧ ((x9 = 0 → (kT h7 v0 = 1 ∧ (kT h7 v0 = 1 ∧ (∀ h10 : Hp, h10 = wI h7 v0 9 ((kI h7 v0 9) ||| (1 <<< (v1 &&& 31))) → X G M Q 33 [(0, .ref v0), (1, .int (v1 + 1))] [] h10)))) ∧ (¬ x9 = 0 → X G M Q 33 [(0, .ref v0), (1, .int (v1 + 1))] [] h7))))))))))))) : X G M Q 33 [(0, .ref v0), (1, .int v1)] [] h := by
  refine x_iload_n hM d_WP_needed_33 rfl 1 rfl ?_
  refine x_aload_n hM d_WP_needed_34 rfl 0 rfl ?_
  obtain ⟨c26, F⟩ := F
  obtain ⟨c27, F⟩ := F
  refine x_getr hG hM ck_WP 0 (Nat.le_of_ble_eq_true rfl) rfl rfl w_402 rfl d_WP_needed_35 c26 c27 ?_
  obtain ⟨c25, F⟩ := F
  refine x_geti hG hM ck_Wo 2 (Nat.le_of_ble_eq_true rfl) rfl rfl w_136 rfl d_WP_needed_38 c25 ?_
  refine x_icmp_ge (tgt := 90) hM d_WP_needed_41 (by decide) (fun q24 => ?_) (fun q24 => ?_)
  · replace F := F.1 q24
    refine x_aload_n hM d_WP_needed_90 rfl 0 rfl ?_
    refine x_aload_n hM d_WP_needed_91 rfl 0 rfl ?_
    obtain ⟨c5, F⟩ := F
    obtain ⟨c6, F⟩ := F
    refine x_getr hG hM ck_WP 3 (Nat.le_of_ble_eq_true rfl) rfl rfl w_405 rfl d_WP_needed_92 c5 c6 ?_
    obtain ⟨c4, F⟩ := F
    refine x_getl hG hM ck_Ch 0 (Nat.le_of_ble_eq_true rfl) rfl rfl w_234 rfl d_WP_needed_95 c4 ?_
    obtain ⟨c3, F⟩ := F
    obtain ⟨h1, eh1⟩ : ∃ z : Hp, z = wL h v0 10 (kL h (rf h v0 3) 0) := ⟨_, rfl⟩
    replace F := F h1 eh1
    refine x_putl hG hM ck_WP 10 (Nat.le_of_ble_eq_true rfl) rfl rfl w_412 rfl d_WP_needed_98 (Or.inl rfl) c3 ?_
    rw [← eh1]
    clear eh1
    refine x_aload_n hM d_WP_needed_101 rfl 0 rfl ?_
    obtain ⟨c2, F⟩ := F
    refine x_geti hG hM ck_WP 9 (Nat.le_of_ble_eq_true rfl) rfl rfl w_411 rfl d_WP_needed_102 c2 ?_
    exact x_ireturn hM d_WP_needed_105 rfl F
  · replace F := F.2 q24
    refine x_aload_n hM d_WP_needed_44 rfl 0 rfl ?_
    obtain ⟨c22, F⟩ := F
    obtain ⟨c23, F⟩ := F
    refine x_getr hG hM ck_WP 7 (Nat.le_of_ble_eq_true rfl) rfl rfl w_409 rfl d_WP_needed_45 c22 c23 ?_
    refine x_aload_n hM d_WP_needed_48 rfl 0 rfl ?_
    obtain ⟨c20, F⟩ := F
    obtain ⟨c21, F⟩ := F
    refine x_getr hG hM ck_WP 0 (Nat.le_of_ble_eq_true rfl) rfl rfl w_402 rfl d_WP_needed_49 c20 c21 ?_
    refine x_aload_n hM d_WP_needed_52 rfl 0 rfl ?_
    obtain ⟨c18, F⟩ := F
    obtain ⟨c19, F⟩ := F
    refine x_getr hG hM ck_WP 5 (Nat.le_of_ble_eq_true rfl) rfl rfl w_407 rfl d_WP_needed_53 c18 c19 ?_
    obtain ⟨c16, F⟩ := F
    obtain ⟨c17, F⟩ := F
    refine x_getr hG hM ck_Wi 0 (Nat.le_of_ble_eq_true rfl) rfl rfl w_284 rfl d_WP_needed_56 c16 c17 ?_
    refine x_aload_n hM d_WP_needed_59 rfl 0 rfl ?_
    obtain ⟨c15, F⟩ := F
    refine x_geti hG hM ck_WP 8 (Nat.le_of_ble_eq_true rfl) rfl rfl w_410 rfl d_WP_needed_60 c15 ?_
    refine x_iload_n hM d_WP_needed_63 rfl 1 rfl ?_
    refine x_iconst (v := (-1)) hM d_WP_needed_64 (by decide) ?_
    refine x_iconst (v := (-1)) hM d_WP_needed_65 (by decide) ?_
    obtain ⟨c14, F⟩ := F
    refine x_callV hG hM (r' := r_Se_wins) (ci := 10) [.ref (rf h v0 0), .ref (rf h (rf h v0 5) 0), .int (kI h v0 8), .int v1, .int (-1), .int (-1)] rfl rfl (Nat.le_of_ble_eq_true rfl) yk_Se_wins ⟨Nat.le_of_ble_eq_true rfl, Nat.le_of_ble_eq_true rfl⟩ w_813 w_814 w_815 rfl rfl (Nat.le_of_ble_eq_true rfl) d_WP_needed_66 c14 (sem_mono F ?_)
    intro u8 h7 F
    obtain ⟨x9, rfl, F⟩ := F
    refine x_if_ne (tgt := 84) hM d_WP_needed_69 (by decide) (fun q13 => ?_) (fun q13 => ?_)
    · replace F := F.2 q13
      refine x_iinc (v := (v1 + 1)) (lv2 := [(1, .int (v1 + 1)), (0, .ref v0)]) hM d_WP_needed_84 (j := 1) rfl rfl (Nat.le_of_ble_eq_true rfl) rfl ?_
      refine x_goto (tgt := 33) hM d_WP_needed_87 (by decide) ?_
      refine x_sub [1, 0] rfl ?_
      exact F
    · replace F := F.1 q13
      refine x_aload_n hM d_WP_needed_72 rfl 0 rfl ?_
      refine x_dup hM d_WP_needed_73 rfl ?_
      obtain ⟨c12, F⟩ := F
      refine x_geti hG hM ck_WP 9 (Nat.le_of_ble_eq_true rfl) rfl rfl w_411 rfl d_WP_needed_74 c12 ?_
      refine x_iconst (v := 1) hM d_WP_needed_77 (by decide) ?_
      refine x_iload_n hM d_WP_needed_78 rfl 1 rfl ?_
      refine x_ishl hM d_WP_needed_79 ?_
      refine x_ior hM d_WP_needed_80 ?_
      obtain ⟨c11, F⟩ := F
      obtain ⟨h10, eh10⟩ : ∃ z : Hp, z = wI h7 v0 9 ((kI h7 v0 9) ||| (1 <<< (v1 &&& 31))) := ⟨_, rfl⟩
      replace F := F h10 eh10
      refine x_puti hG hM ck_WP 9 (Nat.le_of_ble_eq_true rfl) rfl rfl w_411 rfl d_WP_needed_81 (Or.inl rfl) c11 ?_
      rw [← eh10]
      clear eh10
      refine x_iinc (v := (v1 + 1)) (lv2 := [(1, .int (v1 + 1)), (0, .ref v0)]) hM d_WP_needed_84 (j := 1) rfl rfl (Nat.le_of_ble_eq_true rfl) rfl ?_
      refine x_goto (tgt := 33) hM d_WP_needed_87 (by decide) ?_
      refine x_sub [1, 0] rfl ?_
      exact F
theorem d_WP_fact_0 : decode b_WP_fact 0 = .ok (.aload_n 0, 1) := by decide +kernel
theorem d_WP_fact_1 : decode b_WP_fact 1 = .ok (.getfield 12, 3) := by decide +kernel
theorem d_WP_fact_4 : decode b_WP_fact 4 = .ok (.iload_n 1, 1) := by decide +kernel
theorem d_WP_fact_5 : decode b_WP_fact 5 = .ok (.invokevirtual 241, 3) := by decide +kernel
theorem d_WP_fact_8 : decode b_WP_fact 8 = .ok (.ifCond .eq 20, 3) := by decide +kernel
theorem d_WP_fact_11 : decode b_WP_fact 11 = .ok (.iload_n 2, 1) := by decide +kernel
theorem d_WP_fact_12 : decode b_WP_fact 12 = .ok (.ifCond .lt 16, 3) := by decide +kernel
theorem d_WP_fact_15 : decode b_WP_fact 15 = .ok (.iload_n 2, 1) := by decide +kernel
theorem d_WP_fact_16 : decode b_WP_fact 16 = .ok (.aload_n 0, 1) := by decide +kernel
theorem d_WP_fact_17 : decode b_WP_fact 17 = .ok (.getfield 12, 3) := by decide +kernel
theorem d_WP_fact_20 : decode b_WP_fact 20 = .ok (.getfield 244, 3) := by decide +kernel
theorem d_WP_fact_23 : decode b_WP_fact 23 = .ok (.iload_n 1, 1) := by decide +kernel
theorem d_WP_fact_24 : decode b_WP_fact 24 = .ok (.iaload, 1) := by decide +kernel
theorem d_WP_fact_25 : decode b_WP_fact 25 = .ok (.if_icmp .lt 6, 3) := by decide +kernel
theorem d_WP_fact_28 : decode b_WP_fact 28 = .ok (.bipush (-2), 2) := by decide +kernel
theorem d_WP_fact_30 : decode b_WP_fact 30 = .ok (.ireturn, 1) := by decide +kernel
theorem d_WP_fact_31 : decode b_WP_fact 31 = .ok (.aload_n 0, 1) := by decide +kernel
theorem d_WP_fact_32 : decode b_WP_fact 32 = .ok (.getfield 12, 3) := by decide +kernel
theorem d_WP_fact_35 : decode b_WP_fact 35 = .ok (.invokevirtual 166, 3) := by decide +kernel
theorem d_WP_fact_38 : decode b_WP_fact 38 = .ok (.aload_n 0, 1) := by decide +kernel
theorem d_WP_fact_39 : decode b_WP_fact 39 = .ok (.invokevirtual 178, 3) := by decide +kernel
theorem d_WP_fact_42 : decode b_WP_fact 42 = .ok (.aload_n 0, 1) := by decide +kernel
theorem d_WP_fact_43 : decode b_WP_fact 43 = .ok (.getfield 61, 3) := by decide +kernel
theorem d_WP_fact_46 : decode b_WP_fact 46 = .ok (.aload_n 0, 1) := by decide +kernel
theorem d_WP_fact_47 : decode b_WP_fact 47 = .ok (.getfield 12, 3) := by decide +kernel
theorem d_WP_fact_50 : decode b_WP_fact 50 = .ok (.aload_n 0, 1) := by decide +kernel
theorem d_WP_fact_51 : decode b_WP_fact 51 = .ok (.getfield 47, 3) := by decide +kernel
theorem d_WP_fact_54 : decode b_WP_fact 54 = .ok (.getfield 228, 3) := by decide +kernel
theorem d_WP_fact_57 : decode b_WP_fact 57 = .ok (.aload_n 0, 1) := by decide +kernel
theorem d_WP_fact_58 : decode b_WP_fact 58 = .ok (.getfield 65, 3) := by decide +kernel
theorem d_WP_fact_61 : decode b_WP_fact 61 = .ok (.iconst (-1), 1) := by decide +kernel
theorem d_WP_fact_62 : decode b_WP_fact 62 = .ok (.iload_n 1, 1) := by decide +kernel
theorem d_WP_fact_63 : decode b_WP_fact 63 = .ok (.iload_n 2, 1) := by decide +kernel
theorem d_WP_fact_64 : decode b_WP_fact 64 = .ok (.invokevirtual 238, 3) := by decide +kernel
theorem d_WP_fact_67 : decode b_WP_fact 67 = .ok (.ifCond .eq 7, 3) := by decide +kernel
theorem d_WP_fact_70 : decode b_WP_fact 70 = .ok (.iconst 0, 1) := by decide +kernel
theorem d_WP_fact_71 : decode b_WP_fact 71 = .ok (.goto 4, 3) := by decide +kernel
theorem d_WP_fact_74 : decode b_WP_fact 74 = .ok (.iconst 1, 1) := by decide +kernel
theorem d_WP_fact_75 : decode b_WP_fact 75 = .ok (.ireturn, 1) := by decide +kernel
set_option maxRecDepth 100000 in
set_option maxHeartbeats 4000000 in
theorem S_WP_fact_0 {G : Gc} {M : Mc} {Q : State → Prop} {K : Option Value → Hp → Prop} (hG : gok G) (hM : mok G M r_WP_fact Q K) (v0 : Nat) (v1 : Int32) (v2 : Int32) (h : Hp) (F : kT h v0 = 1 ∧ kR h v0 0 = some (rf h v0 0) ∧ (kT h (rf h v0 0) = 2 ∧ sem G r_Wo_isThing [.ref (rf h v0 0), .int v1] h (fun u2 h1 => ∃ x3 : Int32, u2 = some (.int x3) ∧ ((x3 = 0 → K (some (.int (-2))) h1) ∧ (¬ x3 = 0 → ((v2 < 0 → K (some (.int (-2))) h1) ∧ (¬ v2 < 0 → (kT h1 v0 = 1 ∧ kR h1 v0 0 = some (rf h1 v0 0) ∧ (kT h1 (rf h1 v0 0) = 2 ∧ kR h1 (rf h1 v0 0) 3 = some (rf h1 (rf h1 v0 0) 3) ∧ (kT h1 (rf h1 (rf h1 v0 0) 3) = 50 ∧ vp_in v1 (kN h1 (rf h1 (rf h1 v0 0) 3)) ∧ ((v2 < (kI h1 (rf h1 (rf h1 v0 0) 3) (Int32.toNatClampNeg v1)) → (kT h1 v0 = 1 ∧ kR h1 v0 0 = some (rf h1 v0 0) ∧ (kT h1 (rf h1 v0 0) = 2 ∧ sem G r_Wo_prepare [.ref (rf h1 v0 0)] h1 (fun u5 h4 => u5 = none ∧ (kT h4 v0 = 1 ∧ sem G r_WP_findAim [.ref v0] h4 (fun u7 h6 => u7 = none ∧ (kT h6 v0 = 1 ∧ kR h6 v0 7 = some (rf h6 v0 7) ∧ (kT h6 v0 = 1 ∧ kR h6 v0 0 = some (rf h6 v0 0) ∧ (kT h6 v0 = 1 ∧ kR h6 v0 5 = some (rf h6 v0 5) ∧ (kT h6 (rf h6 v0 5) = 9 ∧ kR h6 (rf h6 v0 5) 0 = some (rf h6 (rf h6 v0 5) 0) ∧ (kT h6 v0 = 1 ∧ (kT h6 (rf h6 v0 7) = 11 ∧ sem G r_Se_wins [.ref (rf h6 v0 7), .ref (rf h6 v0 0), .ref (rf h6 (rf h6 v0 5) 0), .int (kI h6 v0 8), .int (-1), .int v1, .int v2] h6 (fun u9 h8 => ∃ x10 : Int32, u9 = some (.int x10) ∧ (∀ z11 : Int32, z11 = (if x10 = 0 then 1 else 0) → K (some (.int z11)) h8)))))))))))))) ∧ (¬ v2 < (kI h1 (rf h1 (rf h1 v0 0) 3) (Int32.toNatClampNeg v1)) → K (some (.int (-2))) h1)))))))))))) : X G M Q 0 [(0, .ref v0), (1, .int v1), (2, .int v2)] [] h := by
  refine x_aload_n hM d_WP_fact_0 rfl 0 rfl ?_
  obtain ⟨c37, F⟩ := F
  obtain ⟨c38, F⟩ := F
  refine x_getr hG hM ck_WP 0 (Nat.le_of_ble_eq_true rfl) rfl rfl w_402 rfl d_WP_fact_1 c37 c38 ?_
  refine x_iload_n hM d_WP_fact_4 rfl 1 rfl ?_
  obtain ⟨c36, F⟩ := F
  refine x_callV hG hM (r' := r_Wo_isThing) (ci := 1) [.int v1] rfl rfl (Nat.le_of_ble_eq_true rfl) yk_Wo_isThing ⟨Nat.le_of_ble_eq_true rfl, Nat.le_of_ble_eq_true rfl⟩ w_833 w_505 w_506 rfl rfl (Nat.le_of_ble_eq_true rfl) d_WP_fact_5 c36 (sem_mono F ?_)
  intro u2 h1 F
  obtain ⟨x3, rfl, F⟩ := F
  refine x_if_eq (tgt := 28) hM d_WP_fact_8 (by decide) (fun q35 => ?_) (fun q35 => ?_)
  · replace F := F.1 q35
    refine x_bipush (v := (-2)) hM d_WP_fact_28 (by decide) ?_
    exact x_ireturn hM d_WP_fact_30 rfl F
  · replace F := F.2 q35
    refine x_iload_n hM d_WP_fact_11 rfl 2 rfl ?_
    refine x_if_lt (tgt := 28) hM d_WP_fact_12 (by decide) (fun q34 => ?_) (fun q34 => ?_)
    · replace F := F.1 q34
      refine x_bipush (v := (-2)) hM d_WP_fact_28 (by decide) ?_
      exact x_ireturn hM d_WP_fact_30 rfl F
    · replace F := F.2 q34
      refine x_iload_n hM d_WP_fact_15 rfl 2 rfl ?_
      refine x_aload_n hM d_WP_fact_16 rfl 0 rfl ?_
      obtain ⟨c32, F⟩ := F
      obtain ⟨c33, F⟩ := F
      refine x_getr hG hM ck_WP 0 (Nat.le_of_ble_eq_true rfl) rfl rfl w_402 rfl d_WP_fact_17 c32 c33 ?_
      obtain ⟨c30, F⟩ := F
      obtain ⟨c31, F⟩ := F
      refine x_getr hG hM ck_Wo 3 (Nat.le_of_ble_eq_true rfl) rfl rfl w_141 rfl d_WP_fact_20 c30 c31 ?_
      refine x_iload_n hM d_WP_fact_23 rfl 1 rfl ?_
      obtain ⟨c28, F⟩ := F
      obtain ⟨c29, F⟩ := F
      refine x_iaload hG hM d_WP_fact_24 c28 c29 ?_
      refine x_icmp_lt (tgt := 31) hM d_WP_fact_25 (by decide) (fun q27 => ?_) (fun q27 => ?_)
      · replace F := F.1 q27
        refine x_aload_n hM d_WP_fact_31 rfl 0 rfl ?_
        obtain ⟨c25, F⟩ := F
        obtain ⟨c26, F⟩ := F
        refine x_getr hG hM ck_WP 0 (Nat.le_of_ble_eq_true rfl) rfl rfl w_402 rfl d_WP_fact_32 c25 c26 ?_
        obtain ⟨c24, F⟩ := F
        refine x_callV hG hM (r' := r_Wo_prepare) (ci := 1) [] rfl rfl (Nat.le_of_ble_eq_true rfl) yk_Wo_prepare ⟨Nat.le_of_ble_eq_true rfl, Nat.le_of_ble_eq_true rfl⟩ w_577 w_578 w_579 rfl rfl (Nat.le_of_ble_eq_true rfl) d_WP_fact_35 c24 (sem_mono F ?_)
        intro u5 h4 F
        obtain ⟨rfl, F⟩ := F
        refine x_aload_n hM d_WP_fact_38 rfl 0 rfl ?_
        obtain ⟨c23, F⟩ := F
        refine x_callV hG hM (r' := r_WP_findAim) (ci := 0) [] rfl rfl (Nat.le_of_ble_eq_true rfl) yk_WP_findAim ⟨Nat.le_of_ble_eq_true rfl, Nat.le_of_ble_eq_true rfl⟩ w_638 w_640 ws_WP_findAim rfl rfl (Nat.le_of_ble_eq_true rfl) d_WP_fact_39 c23 (sem_mono F ?_)
        intro u7 h6 F
        obtain ⟨rfl, F⟩ := F
        refine x_aload_n hM d_WP_fact_42 rfl 0 rfl ?_
        obtain ⟨c21, F⟩ := F
        obtain ⟨c22, F⟩ := F
        refine x_getr hG hM ck_WP 7 (Nat.le_of_ble_eq_true rfl) rfl rfl w_409 rfl d_WP_fact_43 c21 c22 ?_
        refine x_aload_n hM d_WP_fact_46 rfl 0 rfl ?_
        obtain ⟨c19, F⟩ := F
        obtain ⟨c20, F⟩ := F
        refine x_getr hG hM ck_WP 0 (Nat.le_of_ble_eq_true rfl) rfl rfl w_402 rfl d_WP_fact_47 c19 c20 ?_
        refine x_aload_n hM d_WP_fact_50 rfl 0 rfl ?_
        obtain ⟨c17, F⟩ := F
        obtain ⟨c18, F⟩ := F
        refine x_getr hG hM ck_WP 5 (Nat.le_of_ble_eq_true rfl) rfl rfl w_407 rfl d_WP_fact_51 c17 c18 ?_
        obtain ⟨c15, F⟩ := F
        obtain ⟨c16, F⟩ := F
        refine x_getr hG hM ck_Wi 0 (Nat.le_of_ble_eq_true rfl) rfl rfl w_284 rfl d_WP_fact_54 c15 c16 ?_
        refine x_aload_n hM d_WP_fact_57 rfl 0 rfl ?_
        obtain ⟨c14, F⟩ := F
        refine x_geti hG hM ck_WP 8 (Nat.le_of_ble_eq_true rfl) rfl rfl w_410 rfl d_WP_fact_58 c14 ?_
        refine x_iconst (v := (-1)) hM d_WP_fact_61 (by decide) ?_
        refine x_iload_n hM d_WP_fact_62 rfl 1 rfl ?_
        refine x_iload_n hM d_WP_fact_63 rfl 2 rfl ?_
        obtain ⟨c13, F⟩ := F
        refine x_callV hG hM (r' := r_Se_wins) (ci := 10) [.ref (rf h6 v0 0), .ref (rf h6 (rf h6 v0 5) 0), .int (kI h6 v0 8), .int (-1), .int v1, .int v2] rfl rfl (Nat.le_of_ble_eq_true rfl) yk_Se_wins ⟨Nat.le_of_ble_eq_true rfl, Nat.le_of_ble_eq_true rfl⟩ w_813 w_814 w_815 rfl rfl (Nat.le_of_ble_eq_true rfl) d_WP_fact_64 c13 (sem_mono F ?_)
        intro u9 h8 F
        obtain ⟨x10, rfl, F⟩ := F
        have JJ : ∀ (z11 : Int32) (ez11 : z11 = (if x10 = 0 then 1 else 0)), X G M Q 75 [] [.int z11] h8 := by
          intro z11 ez11
          replace F := F _ ez11
          exact x_ireturn hM d_WP_fact_75 rfl F
        refine x_if_eq (tgt := 74) hM d_WP_fact_67 (by decide) (fun q12 => ?_) (fun q12 => ?_)
        · refine x_iconst (v := 1) hM d_WP_fact_74 (by decide) ?_
          refine x_sub [] rfl ?_
          exact JJ _ (Eq.symm (if_pos q12))
        · refine x_iconst (v := 0) hM d_WP_fact_70 (by decide) ?_
          refine x_goto (tgt := 75) hM d_WP_fact_71 (by decide) ?_
          refine x_sub [] rfl ?_
          exact JJ _ (Eq.symm (if_neg q12))
      · replace F := F.2 q27
        refine x_bipush (v := (-2)) hM d_WP_fact_28 (by decide) ?_
        exact x_ireturn hM d_WP_fact_30 rfl F
theorem d_WP_values_0 : decode b_WP_values 0 = .ok (.aload_n 0, 1) := by decide +kernel
theorem d_WP_values_1 : decode b_WP_values 1 = .ok (.getfield 12, 3) := by decide +kernel
theorem d_WP_values_4 : decode b_WP_values 4 = .ok (.iload_n 1, 1) := by decide +kernel
theorem d_WP_values_5 : decode b_WP_values 5 = .ok (.invokevirtual 241, 3) := by decide +kernel
theorem d_WP_values_8 : decode b_WP_values 8 = .ok (.ifCond .ne 6, 3) := by decide +kernel
theorem d_WP_values_11 : decode b_WP_values 11 = .ok (.bipush (-2), 2) := by decide +kernel
theorem d_WP_values_13 : decode b_WP_values 13 = .ok (.ireturn, 1) := by decide +kernel
theorem d_WP_values_14 : decode b_WP_values 14 = .ok (.aload_n 0, 1) := by decide +kernel
theorem d_WP_values_15 : decode b_WP_values 15 = .ok (.getfield 12, 3) := by decide +kernel
theorem d_WP_values_18 : decode b_WP_values 18 = .ok (.invokevirtual 166, 3) := by decide +kernel
theorem d_WP_values_21 : decode b_WP_values 21 = .ok (.aload_n 0, 1) := by decide +kernel
theorem d_WP_values_22 : decode b_WP_values 22 = .ok (.invokevirtual 172, 3) := by decide +kernel
theorem d_WP_values_25 : decode b_WP_values 25 = .ok (.iconst 0, 1) := by decide +kernel
theorem d_WP_values_26 : decode b_WP_values 26 = .ok (.istore_n 2, 1) := by decide +kernel
theorem d_WP_values_27 : decode b_WP_values 27 = .ok (.iconst 0, 1) := by decide +kernel
theorem d_WP_values_28 : decode b_WP_values 28 = .ok (.istore_n 3, 1) := by decide +kernel
theorem d_WP_values_29 : decode b_WP_values 29 = .ok (.iload_n 3, 1) := by decide +kernel
theorem d_WP_values_30 : decode b_WP_values 30 = .ok (.aload_n 0, 1) := by decide +kernel
theorem d_WP_values_31 : decode b_WP_values 31 = .ok (.getfield 12, 3) := by decide +kernel
theorem d_WP_values_34 : decode b_WP_values 34 = .ok (.getfield 169, 3) := by decide +kernel
theorem d_WP_values_37 : decode b_WP_values 37 = .ok (.if_icmp .ge 40, 3) := by decide +kernel
theorem d_WP_values_40 : decode b_WP_values 40 = .ok (.aload_n 0, 1) := by decide +kernel
theorem d_WP_values_41 : decode b_WP_values 41 = .ok (.getfield 40, 3) := by decide +kernel
theorem d_WP_values_44 : decode b_WP_values 44 = .ok (.getfield 201, 3) := by decide +kernel
theorem d_WP_values_47 : decode b_WP_values 47 = .ok (.iload_n 3, 1) := by decide +kernel
theorem d_WP_values_48 : decode b_WP_values 48 = .ok (.iaload, 1) := by decide +kernel
theorem d_WP_values_49 : decode b_WP_values 49 = .ok (.iconst (-1), 1) := by decide +kernel
theorem d_WP_values_50 : decode b_WP_values 50 = .ok (.if_icmp .eq 21, 3) := by decide +kernel
theorem d_WP_values_53 : decode b_WP_values 53 = .ok (.iload_n 2, 1) := by decide +kernel
theorem d_WP_values_54 : decode b_WP_values 54 = .ok (.iconst 1, 1) := by decide +kernel
theorem d_WP_values_55 : decode b_WP_values 55 = .ok (.aload_n 0, 1) := by decide +kernel
theorem d_WP_values_56 : decode b_WP_values 56 = .ok (.getfield 12, 3) := by decide +kernel
theorem d_WP_values_59 : decode b_WP_values 59 = .ok (.getfield 247, 3) := by decide +kernel
theorem d_WP_values_62 : decode b_WP_values 62 = .ok (.iload_n 3, 1) := by decide +kernel
theorem d_WP_values_63 : decode b_WP_values 63 = .ok (.iaload, 1) := by decide +kernel
theorem d_WP_values_64 : decode b_WP_values 64 = .ok (.iload_n 1, 1) := by decide +kernel
theorem d_WP_values_65 : decode b_WP_values 65 = .ok (.invokestatic 250, 3) := by decide +kernel
theorem d_WP_values_68 : decode b_WP_values 68 = .ok (.ishl, 1) := by decide +kernel
theorem d_WP_values_69 : decode b_WP_values 69 = .ok (.ior, 1) := by decide +kernel
theorem d_WP_values_70 : decode b_WP_values 70 = .ok (.istore_n 2, 1) := by decide +kernel
theorem d_WP_values_71 : decode b_WP_values 71 = .ok (.iinc 3 1, 3) := by decide +kernel
theorem d_WP_values_74 : decode b_WP_values 74 = .ok (.goto (-45), 3) := by decide +kernel
theorem d_WP_values_77 : decode b_WP_values 77 = .ok (.iload_n 2, 1) := by decide +kernel
theorem d_WP_values_78 : decode b_WP_values 78 = .ok (.ireturn, 1) := by decide +kernel
set_option maxRecDepth 100000 in
set_option maxHeartbeats 4000000 in
theorem S_WP_values_0 {G : Gc} {M : Mc} {Q : State → Prop} {K : Option Value → Hp → Prop} (hG : gok G) (hM : mok G M r_WP_values Q K) (v0 : Nat) (v1 : Int32) (h : Hp) (F : kT h v0 = 1 ∧ kR h v0 0 = some (rf h v0 0) ∧ (kT h (rf h v0 0) = 2 ∧ sem G r_Wo_isThing [.ref (rf h v0 0), .int v1] h (fun u2 h1 => ∃ x3 : Int32, u2 = some (.int x3) ∧ ((x3 = 0 → K (some (.int (-2))) h1) ∧ (¬ x3 = 0 → (kT h1 v0 = 1 ∧ kR h1 v0 0 = some (rf h1 v0 0) ∧ (kT h1 (rf h1 v0 0) = 2 ∧ sem G r_Wo_prepare [.ref (rf h1 v0 0)] h1 (fun u5 h4 => u5 = none ∧ (kT h4 v0 = 1 ∧ sem G r_WP_findReached [.ref v0] h4 (fun u7 h6 => u7 = none ∧ X G M Q 29 [(0, .ref v0), (1, .int v1), (2, .int 0), (3, .int 0)] [] h6)))))))))) : X G M Q 0 [(0, .ref v0), (1, .int v1)] [] h := by
  refine x_aload_n hM d_WP_values_0 rfl 0 rfl ?_
  obtain ⟨c14, F⟩ := F
  obtain ⟨c15, F⟩ := F
  refine x_getr hG hM ck_WP 0 (Nat.le_of_ble_eq_true rfl) rfl rfl w_402 rfl d_WP_values_1 c14 c15 ?_
  refine x_iload_n hM d_WP_values_4 rfl 1 rfl ?_
  obtain ⟨c13, F⟩ := F
  refine x_callV hG hM (r' := r_Wo_isThing) (ci := 1) [.int v1] rfl rfl (Nat.le_of_ble_eq_true rfl) yk_Wo_isThing ⟨Nat.le_of_ble_eq_true rfl, Nat.le_of_ble_eq_true rfl⟩ w_833 w_505 w_506 rfl rfl (Nat.le_of_ble_eq_true rfl) d_WP_values_5 c13 (sem_mono F ?_)
  intro u2 h1 F
  obtain ⟨x3, rfl, F⟩ := F
  refine x_if_ne (tgt := 14) hM d_WP_values_8 (by decide) (fun q12 => ?_) (fun q12 => ?_)
  · replace F := F.2 q12
    refine x_aload_n hM d_WP_values_14 rfl 0 rfl ?_
    obtain ⟨c10, F⟩ := F
    obtain ⟨c11, F⟩ := F
    refine x_getr hG hM ck_WP 0 (Nat.le_of_ble_eq_true rfl) rfl rfl w_402 rfl d_WP_values_15 c10 c11 ?_
    obtain ⟨c9, F⟩ := F
    refine x_callV hG hM (r' := r_Wo_prepare) (ci := 1) [] rfl rfl (Nat.le_of_ble_eq_true rfl) yk_Wo_prepare ⟨Nat.le_of_ble_eq_true rfl, Nat.le_of_ble_eq_true rfl⟩ w_577 w_578 w_579 rfl rfl (Nat.le_of_ble_eq_true rfl) d_WP_values_18 c9 (sem_mono F ?_)
    intro u5 h4 F
    obtain ⟨rfl, F⟩ := F
    refine x_aload_n hM d_WP_values_21 rfl 0 rfl ?_
    obtain ⟨c8, F⟩ := F
    refine x_callV hG hM (r' := r_WP_findReached) (ci := 0) [] rfl rfl (Nat.le_of_ble_eq_true rfl) yk_WP_findReached ⟨Nat.le_of_ble_eq_true rfl, Nat.le_of_ble_eq_true rfl⟩ w_616 w_618 ws_WP_findReached rfl rfl (Nat.le_of_ble_eq_true rfl) d_WP_values_22 c8 (sem_mono F ?_)
    intro u7 h6 F
    obtain ⟨rfl, F⟩ := F
    refine x_iconst (v := 0) hM d_WP_values_25 (by decide) ?_
    refine x_istore_n (lv2 := [(2, .int 0), (0, .ref v0), (1, .int v1)]) hM d_WP_values_26 rfl (Nat.le_of_ble_eq_true rfl) rfl ?_
    refine x_iconst (v := 0) hM d_WP_values_27 (by decide) ?_
    refine x_istore_n (lv2 := [(3, .int 0), (2, .int 0), (0, .ref v0), (1, .int v1)]) hM d_WP_values_28 rfl (Nat.le_of_ble_eq_true rfl) rfl ?_
    refine x_sub [2, 3, 1, 0] rfl ?_
    exact F
  · replace F := F.1 q12
    refine x_bipush (v := (-2)) hM d_WP_values_11 (by decide) ?_
    exact x_ireturn hM d_WP_values_13 rfl F
set_option maxRecDepth 100000 in
set_option maxHeartbeats 4000000 in
theorem S_WP_values_29 {G : Gc} {M : Mc} {Q : State → Prop} {K : Option Value → Hp → Prop} (hG : gok G) (hM : mok G M r_WP_values Q K) (v0 : Nat) (v1 : Int32) (v2 : Int32) (v3 : Int32) (h : Hp) (F : kT h v0 = 1 ∧ kR h v0 0 = some (rf h v0 0) ∧ (kT h (rf h v0 0) = 2 ∧ (((kI h (rf h v0 0) 1) ≤ v3 → K (some (.int v2)) h) ∧ (¬ (kI h (rf h v0 0) 1) ≤ v3 → (kT h v0 = 1 ∧ kR h v0 4 = some (rf h v0 4) ∧ (kT h (rf h v0 4) = 8 ∧ kR h (rf h v0 4) 0 = some (rf h (rf h v0 4) 0) ∧ (kT h (rf h (rf h v0 4) 0) = 50 ∧ vp_in v3 (kN h (rf h (rf h v0 4) 0)) ∧ (((kI h (rf h (rf h v0 4) 0) (Int32.toNatClampNeg v3)) = (-1) → X G M Q 29 [(0, .ref v0), (1, .int v1), (2, .int v2), (3, .int (v3 + 1))] [] h) ∧ (¬ (kI h (rf h (rf h v0 4) 0) (Int32.toNatClampNeg v3)) = (-1) → (kT h v0 = 1 ∧ kR h v0 0 = some (rf h v0 0) ∧ (kT h (rf h v0 0) = 2 ∧ kR h (rf h v0 0) 6 = some (rf h (rf h v0 0) 6) ∧ (kT h (rf h (rf h v0 0) 6) = 50 ∧ vp_in v3 (kN h (rf h (rf h v0 0) 6)) ∧ (sem G r_WP_valueIn [.int (kI h (rf h (rf h v0 0) 6) (Int32.toNatClampNeg v3)), .int v1] h (fun u2 h1 => ∃ x3 : Int32, u2 = some (.int x3) ∧ X G M Q 29 [(0, .ref v0), (1, .int v1), (2, .int (v2 ||| (1 <<< (x3 &&& 31)))), (3, .int (v3 + 1))] [] h1)))))))))))))) : X G M Q 29 [(0, .ref v0), (1, .int v1), (2, .int v2), (3, .int v3)] [] h := by
  refine x_iload_n hM d_WP_values_29 rfl 3 rfl ?_
  refine x_aload_n hM d_WP_values_30 rfl 0 rfl ?_
  obtain ⟨c19, F⟩ := F
  obtain ⟨c20, F⟩ := F
  refine x_getr hG hM ck_WP 0 (Nat.le_of_ble_eq_true rfl) rfl rfl w_402 rfl d_WP_values_31 c19 c20 ?_
  obtain ⟨c18, F⟩ := F
  refine x_geti hG hM ck_Wo 1 (Nat.le_of_ble_eq_true rfl) rfl rfl w_132 rfl d_WP_values_34 c18 ?_
  refine x_icmp_ge (tgt := 77) hM d_WP_values_37 (by decide) (fun q17 => ?_) (fun q17 => ?_)
  · replace F := F.1 q17
    refine x_iload_n hM d_WP_values_77 rfl 2 rfl ?_
    exact x_ireturn hM d_WP_values_78 rfl F
  · replace F := F.2 q17
    refine x_aload_n hM d_WP_values_40 rfl 0 rfl ?_
    obtain ⟨c15, F⟩ := F
    obtain ⟨c16, F⟩ := F
    refine x_getr hG hM ck_WP 4 (Nat.le_of_ble_eq_true rfl) rfl rfl w_406 rfl d_WP_values_41 c15 c16 ?_
    obtain ⟨c13, F⟩ := F
    obtain ⟨c14, F⟩ := F
    refine x_getr hG hM ck_Re 0 (Nat.le_of_ble_eq_true rfl) rfl rfl w_257 rfl d_WP_values_44 c13 c14 ?_
    refine x_iload_n hM d_WP_values_47 rfl 3 rfl ?_
    obtain ⟨c11, F⟩ := F
    obtain ⟨c12, F⟩ := F
    refine x_iaload hG hM d_WP_values_48 c11 c12 ?_
    refine x_iconst (v := (-1)) hM d_WP_values_49 (by decide) ?_
    refine x_icmp_eq (tgt := 71) hM d_WP_values_50 (by decide) (fun q10 => ?_) (fun q10 => ?_)
    · replace F := F.1 q10
      refine x_iinc (v := (v3 + 1)) (lv2 := [(3, .int (v3 + 1)), (0, .ref v0), (1, .int v1), (2, .int v2)]) hM d_WP_values_71 (j := 3) rfl rfl (Nat.le_of_ble_eq_true rfl) rfl ?_
      refine x_goto (tgt := 29) hM d_WP_values_74 (by decide) ?_
      refine x_sub [1, 2, 3, 0] rfl ?_
      exact F
    · replace F := F.2 q10
      refine x_iload_n hM d_WP_values_53 rfl 2 rfl ?_
      refine x_iconst (v := 1) hM d_WP_values_54 (by decide) ?_
      refine x_aload_n hM d_WP_values_55 rfl 0 rfl ?_
      obtain ⟨c8, F⟩ := F
      obtain ⟨c9, F⟩ := F
      refine x_getr hG hM ck_WP 0 (Nat.le_of_ble_eq_true rfl) rfl rfl w_402 rfl d_WP_values_56 c8 c9 ?_
      obtain ⟨c6, F⟩ := F
      obtain ⟨c7, F⟩ := F
      refine x_getr hG hM ck_Wo 6 (Nat.le_of_ble_eq_true rfl) rfl rfl w_155 rfl d_WP_values_59 c6 c7 ?_
      refine x_iload_n hM d_WP_values_62 rfl 3 rfl ?_
      obtain ⟨c4, F⟩ := F
      obtain ⟨c5, F⟩ := F
      refine x_iaload hG hM d_WP_values_63 c4 c5 ?_
      refine x_iload_n hM d_WP_values_64 rfl 1 rfl ?_
      refine x_callS hG hM (r' := r_WP_valueIn) [.int (kI h (rf h (rf h v0 0) 6) (Int32.toNatClampNeg v3)), .int v1] rfl yk_WP_valueIn ⟨Nat.le_of_ble_eq_true rfl, Nat.le_of_ble_eq_true rfl⟩ w_838 w_558 rfl rfl (Nat.le_of_ble_eq_true rfl) d_WP_values_65 (sem_mono F ?_)
      intro u2 h1 F
      obtain ⟨x3, rfl, F⟩ := F
      refine x_ishl hM d_WP_values_68 ?_
      refine x_ior hM d_WP_values_69 ?_
      refine x_istore_n (lv2 := [(2, .int (v2 ||| (1 <<< (x3 &&& 31)))), (0, .ref v0), (1, .int v1), (3, .int v3)]) hM d_WP_values_70 rfl (Nat.le_of_ble_eq_true rfl) rfl ?_
      refine x_iinc (v := (v3 + 1)) (lv2 := [(3, .int (v3 + 1)), (2, .int (v2 ||| (1 <<< (x3 &&& 31)))), (0, .ref v0), (1, .int v1)]) hM d_WP_values_71 (j := 3) rfl rfl (Nat.le_of_ble_eq_true rfl) rfl ?_
      refine x_goto (tgt := 29) hM d_WP_values_74 (by decide) ?_
      refine x_sub [2, 3, 1, 0] rfl ?_
      exact F
theorem d_WP_cover_0 : decode b_WP_cover 0 = .ok (.aload_n 0, 1) := by decide +kernel
theorem d_WP_cover_1 : decode b_WP_cover 1 = .ok (.getfield 26, 3) := by decide +kernel
theorem d_WP_cover_4 : decode b_WP_cover 4 = .ok (.invokevirtual 254, 3) := by decide +kernel
theorem d_WP_cover_7 : decode b_WP_cover 7 = .ok (.istore_n 1, 1) := by decide +kernel
theorem d_WP_cover_8 : decode b_WP_cover 8 = .ok (.iload_n 1, 1) := by decide +kernel
theorem d_WP_cover_9 : decode b_WP_cover 9 = .ok (.bipush (-3), 2) := by decide +kernel
theorem d_WP_cover_11 : decode b_WP_cover 11 = .ok (.if_icmp .eq 10, 3) := by decide +kernel
theorem d_WP_cover_14 : decode b_WP_cover 14 = .ok (.aload_n 0, 1) := by decide +kernel
theorem d_WP_cover_15 : decode b_WP_cover 15 = .ok (.getfield 33, 3) := by decide +kernel
theorem d_WP_cover_18 : decode b_WP_cover 18 = .ok (.invokevirtual 257, 3) := by decide +kernel
theorem d_WP_cover_21 : decode b_WP_cover 21 = .ok (.iload_n 1, 1) := by decide +kernel
theorem d_WP_cover_22 : decode b_WP_cover 22 = .ok (.ireturn, 1) := by decide +kernel
set_option maxRecDepth 100000 in
set_option maxHeartbeats 4000000 in
theorem S_WP_cover_0 {G : Gc} {M : Mc} {Q : State → Prop} {K : Option Value → Hp → Prop} (hG : gok G) (hM : mok G M r_WP_cover Q K) (v0 : Nat) (h : Hp) (F : kT h v0 = 1 ∧ kR h v0 2 = some (rf h v0 2) ∧ (kT h (rf h v0 2) = 6 ∧ sem G r_Co_addPart [.ref (rf h v0 2)] h (fun u2 h1 => ∃ x3 : Int32, u2 = some (.int x3) ∧ ((x3 = (-3) → K (some (.int x3)) h1) ∧ (¬ x3 = (-3) → (kT h1 v0 = 1 ∧ kR h1 v0 3 = some (rf h1 v0 3) ∧ (kT h1 (rf h1 v0 3) = 7 ∧ sem G r_Ch_inCover [.ref (rf h1 v0 3)] h1 (fun u5 h4 => u5 = none ∧ K (some (.int x3)) h4)))))))) : X G M Q 0 [(0, .ref v0)] [] h := by
  refine x_aload_n hM d_WP_cover_0 rfl 0 rfl ?_
  obtain ⟨c11, F⟩ := F
  obtain ⟨c12, F⟩ := F
  refine x_getr hG hM ck_WP 2 (Nat.le_of_ble_eq_true rfl) rfl rfl w_404 rfl d_WP_cover_1 c11 c12 ?_
  obtain ⟨c10, F⟩ := F
  refine x_callV hG hM (r' := r_Co_addPart) (ci := 5) [] rfl rfl (Nat.le_of_ble_eq_true rfl) yk_Co_addPart ⟨Nat.le_of_ble_eq_true rfl, Nat.le_of_ble_eq_true rfl⟩ w_843 w_844 w_845 rfl rfl (Nat.le_of_ble_eq_true rfl) d_WP_cover_4 c10 (sem_mono F ?_)
  intro u2 h1 F
  obtain ⟨x3, rfl, F⟩ := F
  refine x_istore_n (lv2 := [(1, .int x3), (0, .ref v0)]) hM d_WP_cover_7 rfl (Nat.le_of_ble_eq_true rfl) rfl ?_
  refine x_iload_n hM d_WP_cover_8 rfl 0 rfl ?_
  refine x_bipush (v := (-3)) hM d_WP_cover_9 (by decide) ?_
  refine x_icmp_eq (tgt := 21) hM d_WP_cover_11 (by decide) (fun q9 => ?_) (fun q9 => ?_)
  · replace F := F.1 q9
    refine x_iload_n hM d_WP_cover_21 rfl 0 rfl ?_
    exact x_ireturn hM d_WP_cover_22 rfl F
  · replace F := F.2 q9
    refine x_aload_n hM d_WP_cover_14 rfl 1 rfl ?_
    obtain ⟨c7, F⟩ := F
    obtain ⟨c8, F⟩ := F
    refine x_getr hG hM ck_WP 3 (Nat.le_of_ble_eq_true rfl) rfl rfl w_405 rfl d_WP_cover_15 c7 c8 ?_
    obtain ⟨c6, F⟩ := F
    refine x_callV hG hM (r' := r_Ch_inCover) (ci := 6) [] rfl rfl (Nat.le_of_ble_eq_true rfl) yk_Ch_inCover ⟨Nat.le_of_ble_eq_true rfl, Nat.le_of_ble_eq_true rfl⟩ w_847 w_848 w_849 rfl rfl (Nat.le_of_ble_eq_true rfl) d_WP_cover_18 c6 (sem_mono F ?_)
    intro u5 h4 F
    obtain ⟨rfl, F⟩ := F
    refine x_iload_n hM d_WP_cover_21 rfl 0 rfl ?_
    exact x_ireturn hM d_WP_cover_22 rfl F
theorem d_WP_part_0 : decode b_WP_part 0 = .ok (.iload_n 1, 1) := by decide +kernel
theorem d_WP_part_1 : decode b_WP_part 1 = .ok (.ifCond .lt 28, 3) := by decide +kernel
theorem d_WP_part_4 : decode b_WP_part 4 = .ok (.iload_n 1, 1) := by decide +kernel
theorem d_WP_part_5 : decode b_WP_part 5 = .ok (.aload_n 0, 1) := by decide +kernel
theorem d_WP_part_6 : decode b_WP_part 6 = .ok (.getfield 26, 3) := by decide +kernel
theorem d_WP_part_9 : decode b_WP_part 9 = .ok (.getfield 85, 3) := by decide +kernel
theorem d_WP_part_12 : decode b_WP_part 12 = .ok (.if_icmp .ge 17, 3) := by decide +kernel
theorem d_WP_part_15 : decode b_WP_part 15 = .ok (.aload_n 0, 1) := by decide +kernel
theorem d_WP_part_16 : decode b_WP_part 16 = .ok (.getfield 12, 3) := by decide +kernel
theorem d_WP_part_19 : decode b_WP_part 19 = .ok (.iload_n 2, 1) := by decide +kernel
theorem d_WP_part_20 : decode b_WP_part 20 = .ok (.iload_n 3, 1) := by decide +kernel
theorem d_WP_part_21 : decode b_WP_part 21 = .ok (.iload 4, 2) := by decide +kernel
theorem d_WP_part_23 : decode b_WP_part 23 = .ok (.invokevirtual 123, 3) := by decide +kernel
theorem d_WP_part_26 : decode b_WP_part 26 = .ok (.ifCond .ne 6, 3) := by decide +kernel
theorem d_WP_part_29 : decode b_WP_part 29 = .ok (.bipush (-2), 2) := by decide +kernel
theorem d_WP_part_31 : decode b_WP_part 31 = .ok (.ireturn, 1) := by decide +kernel
theorem d_WP_part_32 : decode b_WP_part 32 = .ok (.aload_n 0, 1) := by decide +kernel
theorem d_WP_part_33 : decode b_WP_part 33 = .ok (.getfield 26, 3) := by decide +kernel
theorem d_WP_part_36 : decode b_WP_part 36 = .ok (.getfield 260, 3) := by decide +kernel
theorem d_WP_part_39 : decode b_WP_part 39 = .ok (.iload_n 1, 1) := by decide +kernel
theorem d_WP_part_40 : decode b_WP_part 40 = .ok (.aaload, 1) := by decide +kernel
theorem d_WP_part_41 : decode b_WP_part 41 = .ok (.iload_n 2, 1) := by decide +kernel
theorem d_WP_part_42 : decode b_WP_part 42 = .ok (.iload_n 3, 1) := by decide +kernel
theorem d_WP_part_43 : decode b_WP_part 43 = .ok (.iload 4, 2) := by decide +kernel
theorem d_WP_part_45 : decode b_WP_part 45 = .ok (.invokevirtual 130, 3) := by decide +kernel
theorem d_WP_part_48 : decode b_WP_part 48 = .ok (.istore 5, 2) := by decide +kernel
theorem d_WP_part_50 : decode b_WP_part 50 = .ok (.iload 5, 2) := by decide +kernel
theorem d_WP_part_52 : decode b_WP_part 52 = .ok (.bipush (-3), 2) := by decide +kernel
theorem d_WP_part_54 : decode b_WP_part 54 = .ok (.if_icmp .eq 10, 3) := by decide +kernel
theorem d_WP_part_57 : decode b_WP_part 57 = .ok (.aload_n 0, 1) := by decide +kernel
theorem d_WP_part_58 : decode b_WP_part 58 = .ok (.getfield 33, 3) := by decide +kernel
theorem d_WP_part_61 : decode b_WP_part 61 = .ok (.invokevirtual 257, 3) := by decide +kernel
theorem d_WP_part_64 : decode b_WP_part 64 = .ok (.iload 5, 2) := by decide +kernel
theorem d_WP_part_66 : decode b_WP_part 66 = .ok (.ireturn, 1) := by decide +kernel
set_option maxRecDepth 100000 in
set_option maxHeartbeats 4000000 in
theorem S_WP_part_0 {G : Gc} {M : Mc} {Q : State → Prop} {K : Option Value → Hp → Prop} (hG : gok G) (hM : mok G M r_WP_part Q K) (v0 : Nat) (v1 : Int32) (v2 : Int32) (v3 : Int32) (v4 : Int32) (h : Hp) (F : (v1 < 0 → K (some (.int (-2))) h) ∧ (¬ v1 < 0 → (kT h v0 = 1 ∧ kR h v0 2 = some (rf h v0 2) ∧ (kT h (rf h v0 2) = 6 ∧ (((kI h (rf h v0 2) 0) ≤ v1 → K (some (.int (-2))) h) ∧ (¬ (kI h (rf h v0 2) 0) ≤ v1 → (kT h v0 = 1 ∧ kR h v0 0 = some (rf h v0 0) ∧ (kT h (rf h v0 0) = 2 ∧ sem G r_Wo_isCondition [.ref (rf h v0 0), .int v2, .int v3, .int v4] h (fun u2 h1 => ∃ x3 : Int32, u2 = some (.int x3) ∧ ((x3 = 0 → K (some (.int (-2))) h1) ∧ (¬ x3 = 0 → (kT h1 v0 = 1 ∧ kR h1 v0 2 = some (rf h1 v0 2) ∧ (kT h1 (rf h1 v0 2) = 6 ∧ kR h1 (rf h1 v0 2) 1 = some (rf h1 (rf h1 v0 2) 1) ∧ (kT h1 (rf h1 (rf h1 v0 2) 1) = 55 ∧ vp_in v1 (kN h1 (rf h1 (rf h1 v0 2) 1)) ∧ kR h1 (rf h1 (rf h1 v0 2) 1) (Int32.toNatClampNeg v1) = some (rf h1 (rf h1 (rf h1 v0 2) 1) (Int32.toNatClampNeg v1)) ∧ (kT h1 (rf h1 (rf h1 (rf h1 v0 2) 1) (Int32.toNatClampNeg v1)) = 5 ∧ sem G r_Cl_add [.ref (rf h1 (rf h1 (rf h1 v0 2) 1) (Int32.toNatClampNeg v1)), .int v2, .int v3, .int v4] h1 (fun u5 h4 => ∃ x6 : Int32, u5 = some (.int x6) ∧ ((x6 = (-3) → K (some (.int x6)) h4) ∧ (¬ x6 = (-3) → (kT h4 v0 = 1 ∧ kR h4 v0 3 = some (rf h4 v0 3) ∧ (kT h4 (rf h4 v0 3) = 7 ∧ sem G r_Ch_inCover [.ref (rf h4 v0 3)] h4 (fun u8 h7 => u8 = none ∧ K (some (.int x6)) h7))))))))))))))))))))) : X G M Q 0 [(0, .ref v0), (1, .int v1), (2, .int v2), (3, .int v3), (4, .int v4)] [] h := by
  refine x_iload_n hM d_WP_part_0 rfl 1 rfl ?_
  refine x_if_lt (tgt := 29) hM d_WP_part_1 (by decide) (fun q29 => ?_) (fun q29 => ?_)
  · replace F := F.1 q29
    refine x_bipush (v := (-2)) hM d_WP_part_29 (by decide) ?_
    exact x_ireturn hM d_WP_part_31 rfl F
  · replace F := F.2 q29
    refine x_iload_n hM d_WP_part_4 rfl 1 rfl ?_
    refine x_aload_n hM d_WP_part_5 rfl 0 rfl ?_
    obtain ⟨c27, F⟩ := F
    obtain ⟨c28, F⟩ := F
    refine x_getr hG hM ck_WP 2 (Nat.le_of_ble_eq_true rfl) rfl rfl w_404 rfl d_WP_part_6 c27 c28 ?_
    obtain ⟨c26, F⟩ := F
    refine x_geti hG hM ck_Co 0 (Nat.le_of_ble_eq_true rfl) rfl rfl w_195 rfl d_WP_part_9 c26 ?_
    refine x_icmp_ge (tgt := 29) hM d_WP_part_12 (by decide) (fun q25 => ?_) (fun q25 => ?_)
    · replace F := F.1 q25
      refine x_bipush (v := (-2)) hM d_WP_part_29 (by decide) ?_
      exact x_ireturn hM d_WP_part_31 rfl F
    · replace F := F.2 q25
      refine x_aload_n hM d_WP_part_15 rfl 0 rfl ?_
      obtain ⟨c23, F⟩ := F
      obtain ⟨c24, F⟩ := F
      refine x_getr hG hM ck_WP 0 (Nat.le_of_ble_eq_true rfl) rfl rfl w_402 rfl d_WP_part_16 c23 c24 ?_
      refine x_iload_n hM d_WP_part_19 rfl 2 rfl ?_
      refine x_iload_n hM d_WP_part_20 rfl 3 rfl ?_
      refine x_iload hM d_WP_part_21 4 rfl ?_
      obtain ⟨c22, F⟩ := F
      refine x_callV hG hM (r' := r_Wo_isCondition) (ci := 1) [.int v2, .int v3, .int v4] rfl rfl (Nat.le_of_ble_eq_true rfl) yk_Wo_isCondition ⟨Nat.le_of_ble_eq_true rfl, Nat.le_of_ble_eq_true rfl⟩ w_500 w_501 w_502 rfl rfl (Nat.le_of_ble_eq_true rfl) d_WP_part_23 c22 (sem_mono F ?_)
      intro u2 h1 F
      obtain ⟨x3, rfl, F⟩ := F
      refine x_if_ne (tgt := 32) hM d_WP_part_26 (by decide) (fun q21 => ?_) (fun q21 => ?_)
      · replace F := F.2 q21
        refine x_aload_n hM d_WP_part_32 rfl 0 rfl ?_
        obtain ⟨c19, F⟩ := F
        obtain ⟨c20, F⟩ := F
        refine x_getr hG hM ck_WP 2 (Nat.le_of_ble_eq_true rfl) rfl rfl w_404 rfl d_WP_part_33 c19 c20 ?_
        obtain ⟨c17, F⟩ := F
        obtain ⟨c18, F⟩ := F
        refine x_getr hG hM ck_Co 1 (Nat.le_of_ble_eq_true rfl) rfl rfl w_197 rfl d_WP_part_36 c17 c18 ?_
        refine x_iload_n hM d_WP_part_39 rfl 1 rfl ?_
        obtain ⟨c14, F⟩ := F
        obtain ⟨c15, F⟩ := F
        obtain ⟨c16, F⟩ := F
        refine x_aaload hG hM 55 rfl (Nat.le_of_ble_eq_true rfl) d_WP_part_40 c14 c15 c16 ?_
        refine x_iload_n hM d_WP_part_41 rfl 2 rfl ?_
        refine x_iload_n hM d_WP_part_42 rfl 3 rfl ?_
        refine x_iload hM d_WP_part_43 4 rfl ?_
        obtain ⟨c13, F⟩ := F
        refine x_callV hG hM (r' := r_Cl_add) (ci := 4) [.int v2, .int v3, .int v4] rfl rfl (Nat.le_of_ble_eq_true rfl) yk_Cl_add ⟨Nat.le_of_ble_eq_true rfl, Nat.le_of_ble_eq_true rfl⟩ w_508 w_509 w_510 rfl rfl (Nat.le_of_ble_eq_true rfl) d_WP_part_45 c13 (sem_mono F ?_)
        intro u5 h4 F
        obtain ⟨x6, rfl, F⟩ := F
        refine x_istore (lv2 := [(5, .int x6), (0, .ref v0), (1, .int v1), (2, .int v2), (3, .int v3), (4, .int v4)]) hM d_WP_part_48 (Nat.le_of_ble_eq_true rfl) rfl ?_
        refine x_iload hM d_WP_part_50 0 rfl ?_
        refine x_bipush (v := (-3)) hM d_WP_part_52 (by decide) ?_
        refine x_icmp_eq (tgt := 64) hM d_WP_part_54 (by decide) (fun q12 => ?_) (fun q12 => ?_)
        · replace F := F.1 q12
          refine x_iload hM d_WP_part_64 0 rfl ?_
          exact x_ireturn hM d_WP_part_66 rfl F
        · replace F := F.2 q12
          refine x_aload_n hM d_WP_part_57 rfl 1 rfl ?_
          obtain ⟨c10, F⟩ := F
          obtain ⟨c11, F⟩ := F
          refine x_getr hG hM ck_WP 3 (Nat.le_of_ble_eq_true rfl) rfl rfl w_405 rfl d_WP_part_58 c10 c11 ?_
          obtain ⟨c9, F⟩ := F
          refine x_callV hG hM (r' := r_Ch_inCover) (ci := 6) [] rfl rfl (Nat.le_of_ble_eq_true rfl) yk_Ch_inCover ⟨Nat.le_of_ble_eq_true rfl, Nat.le_of_ble_eq_true rfl⟩ w_847 w_848 w_849 rfl rfl (Nat.le_of_ble_eq_true rfl) d_WP_part_61 c9 (sem_mono F ?_)
          intro u8 h7 F
          obtain ⟨rfl, F⟩ := F
          refine x_iload hM d_WP_part_64 0 rfl ?_
          exact x_ireturn hM d_WP_part_66 rfl F
      · replace F := F.1 q21
        refine x_bipush (v := (-2)) hM d_WP_part_29 (by decide) ?_
        exact x_ireturn hM d_WP_part_31 rfl F
theorem d_WP_bare_0 : decode b_WP_bare 0 = .ok (.aload_n 0, 1) := by decide +kernel
theorem d_WP_bare_1 : decode b_WP_bare 1 = .ok (.getfield 26, 3) := by decide +kernel
theorem d_WP_bare_4 : decode b_WP_bare 4 = .ok (.getfield 85, 3) := by decide +kernel
theorem d_WP_bare_7 : decode b_WP_bare 7 = .ok (.istore_n 1, 1) := by decide +kernel
theorem d_WP_bare_8 : decode b_WP_bare 8 = .ok (.aload_n 0, 1) := by decide +kernel
theorem d_WP_bare_9 : decode b_WP_bare 9 = .ok (.getfield 26, 3) := by decide +kernel
theorem d_WP_bare_12 : decode b_WP_bare 12 = .ok (.iconst 0, 1) := by decide +kernel
theorem d_WP_bare_13 : decode b_WP_bare 13 = .ok (.putfield 85, 3) := by decide +kernel
theorem d_WP_bare_16 : decode b_WP_bare 16 = .ok (.iload_n 1, 1) := by decide +kernel
theorem d_WP_bare_17 : decode b_WP_bare 17 = .ok (.ifCond .le 10, 3) := by decide +kernel
theorem d_WP_bare_20 : decode b_WP_bare 20 = .ok (.aload_n 0, 1) := by decide +kernel
theorem d_WP_bare_21 : decode b_WP_bare 21 = .ok (.getfield 33, 3) := by decide +kernel
theorem d_WP_bare_24 : decode b_WP_bare 24 = .ok (.invokevirtual 257, 3) := by decide +kernel
theorem d_WP_bare_27 : decode b_WP_bare 27 = .ok (.iload_n 1, 1) := by decide +kernel
theorem d_WP_bare_28 : decode b_WP_bare 28 = .ok (.ireturn, 1) := by decide +kernel
set_option maxRecDepth 100000 in
set_option maxHeartbeats 4000000 in
theorem S_WP_bare_0 {G : Gc} {M : Mc} {Q : State → Prop} {K : Option Value → Hp → Prop} (hG : gok G) (hM : mok G M r_WP_bare Q K) (v0 : Nat) (h : Hp) (F : kT h v0 = 1 ∧ kR h v0 2 = some (rf h v0 2) ∧ (kT h (rf h v0 2) = 6 ∧ (kT h v0 = 1 ∧ kR h v0 2 = some (rf h v0 2) ∧ (kT h (rf h v0 2) = 6 ∧ (∀ h1 : Hp, h1 = wI h (rf h v0 2) 0 0 → (((kI h (rf h v0 2) 0) ≤ 0 → K (some (.int (kI h (rf h v0 2) 0))) h1) ∧ (¬ (kI h (rf h v0 2) 0) ≤ 0 → (kT h1 v0 = 1 ∧ kR h1 v0 3 = some (rf h1 v0 3) ∧ (kT h1 (rf h1 v0 3) = 7 ∧ sem G r_Ch_inCover [.ref (rf h1 v0 3)] h1 (fun u3 h2 => u3 = none ∧ K (some (.int (kI h (rf h v0 2) 0))) h2)))))))))) : X G M Q 0 [(0, .ref v0)] [] h := by
  refine x_aload_n hM d_WP_bare_0 rfl 0 rfl ?_
  obtain ⟨c12, F⟩ := F
  obtain ⟨c13, F⟩ := F
  refine x_getr hG hM ck_WP 2 (Nat.le_of_ble_eq_true rfl) rfl rfl w_404 rfl d_WP_bare_1 c12 c13 ?_
  obtain ⟨c11, F⟩ := F
  refine x_geti hG hM ck_Co 0 (Nat.le_of_ble_eq_true rfl) rfl rfl w_195 rfl d_WP_bare_4 c11 ?_
  refine x_istore_n (lv2 := [(1, .int (kI h (rf h v0 2) 0)), (0, .ref v0)]) hM d_WP_bare_7 rfl (Nat.le_of_ble_eq_true rfl) rfl ?_
  refine x_aload_n hM d_WP_bare_8 rfl 1 rfl ?_
  obtain ⟨c9, F⟩ := F
  obtain ⟨c10, F⟩ := F
  refine x_getr hG hM ck_WP 2 (Nat.le_of_ble_eq_true rfl) rfl rfl w_404 rfl d_WP_bare_9 c9 c10 ?_
  refine x_iconst (v := 0) hM d_WP_bare_12 (by decide) ?_
  obtain ⟨c8, F⟩ := F
  obtain ⟨h1, eh1⟩ : ∃ z : Hp, z = wI h (rf h v0 2) 0 0 := ⟨_, rfl⟩
  replace F := F h1 eh1
  refine x_puti hG hM ck_Co 0 (Nat.le_of_ble_eq_true rfl) rfl rfl w_195 rfl d_WP_bare_13 (Or.inl rfl) c8 ?_
  rw [← eh1]
  clear eh1
  refine x_iload_n hM d_WP_bare_16 rfl 0 rfl ?_
  refine x_if_le (tgt := 27) hM d_WP_bare_17 (by decide) (fun q7 => ?_) (fun q7 => ?_)
  · replace F := F.1 q7
    refine x_iload_n hM d_WP_bare_27 rfl 0 rfl ?_
    exact x_ireturn hM d_WP_bare_28 rfl F
  · replace F := F.2 q7
    refine x_aload_n hM d_WP_bare_20 rfl 1 rfl ?_
    obtain ⟨c5, F⟩ := F
    obtain ⟨c6, F⟩ := F
    refine x_getr hG hM ck_WP 3 (Nat.le_of_ble_eq_true rfl) rfl rfl w_405 rfl d_WP_bare_21 c5 c6 ?_
    obtain ⟨c4, F⟩ := F
    refine x_callV hG hM (r' := r_Ch_inCover) (ci := 6) [] rfl rfl (Nat.le_of_ble_eq_true rfl) yk_Ch_inCover ⟨Nat.le_of_ble_eq_true rfl, Nat.le_of_ble_eq_true rfl⟩ w_847 w_848 w_849 rfl rfl (Nat.le_of_ble_eq_true rfl) d_WP_bare_24 c4 (sem_mono F ?_)
    intro u3 h2 F
    obtain ⟨rfl, F⟩ := F
    refine x_iload_n hM d_WP_bare_27 rfl 0 rfl ?_
    exact x_ireturn hM d_WP_bare_28 rfl F
