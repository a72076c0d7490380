theorem d_Wo_linkOutcome_0 : decode b_Wo_linkOutcome 0 = .ok (.iconst 0, 1) := by decide +kernel
theorem d_Wo_linkOutcome_1 : decode b_Wo_linkOutcome 1 = .ok (.istore_n 3, 1) := by decide +kernel
theorem d_Wo_linkOutcome_2 : decode b_Wo_linkOutcome 2 = .ok (.iload_n 3, 1) := by decide +kernel
theorem d_Wo_linkOutcome_3 : decode b_Wo_linkOutcome 3 = .ok (.aload_n 0, 1) := by decide +kernel
theorem d_Wo_linkOutcome_4 : decode b_Wo_linkOutcome 4 = .ok (.getfield 15, 3) := by decide +kernel
theorem d_Wo_linkOutcome_7 : decode b_Wo_linkOutcome 7 = .ok (.if_icmp .ge 46, 3) := by decide +kernel
theorem d_Wo_linkOutcome_10 : decode b_Wo_linkOutcome 10 = .ok (.aload_n 1, 1) := by decide +kernel
theorem d_Wo_linkOutcome_11 : decode b_Wo_linkOutcome 11 = .ok (.getfield 97, 3) := by decide +kernel
theorem d_Wo_linkOutcome_14 : decode b_Wo_linkOutcome 14 = .ok (.iload_n 3, 1) := by decide +kernel
theorem d_Wo_linkOutcome_15 : decode b_Wo_linkOutcome 15 = .ok (.iaload, 1) := by decide +kernel
theorem d_Wo_linkOutcome_16 : decode b_Wo_linkOutcome 16 = .ok (.istore 4, 2) := by decide +kernel
theorem d_Wo_linkOutcome_18 : decode b_Wo_linkOutcome 18 = .ok (.iload 4, 2) := by decide +kernel
theorem d_Wo_linkOutcome_20 : decode b_Wo_linkOutcome 20 = .ok (.iconst (-1), 1) := by decide +kernel
theorem d_Wo_linkOutcome_21 : decode b_Wo_linkOutcome 21 = .ok (.if_icmp .eq 26, 3) := by decide +kernel
theorem d_Wo_linkOutcome_24 : decode b_Wo_linkOutcome 24 = .ok (.aload_n 1, 1) := by decide +kernel
theorem d_Wo_linkOutcome_25 : decode b_Wo_linkOutcome 25 = .ok (.getfield 105, 3) := by decide +kernel
theorem d_Wo_linkOutcome_28 : decode b_Wo_linkOutcome 28 = .ok (.iload_n 3, 1) := by decide +kernel
theorem d_Wo_linkOutcome_29 : decode b_Wo_linkOutcome 29 = .ok (.aload_n 0, 1) := by decide +kernel
theorem d_Wo_linkOutcome_30 : decode b_Wo_linkOutcome 30 = .ok (.getfield 37, 3) := by decide +kernel
theorem d_Wo_linkOutcome_33 : decode b_Wo_linkOutcome 33 = .ok (.iload 4, 2) := by decide +kernel
theorem d_Wo_linkOutcome_35 : decode b_Wo_linkOutcome 35 = .ok (.iaload, 1) := by decide +kernel
theorem d_Wo_linkOutcome_36 : decode b_Wo_linkOutcome 36 = .ok (.iastore, 1) := by decide +kernel
theorem d_Wo_linkOutcome_37 : decode b_Wo_linkOutcome 37 = .ok (.aload_n 0, 1) := by decide +kernel
theorem d_Wo_linkOutcome_38 : decode b_Wo_linkOutcome 38 = .ok (.getfield 37, 3) := by decide +kernel
theorem d_Wo_linkOutcome_41 : decode b_Wo_linkOutcome 41 = .ok (.iload 4, 2) := by decide +kernel
theorem d_Wo_linkOutcome_43 : decode b_Wo_linkOutcome 43 = .ok (.iload_n 2, 1) := by decide +kernel
theorem d_Wo_linkOutcome_44 : decode b_Wo_linkOutcome 44 = .ok (.iload_n 3, 1) := by decide +kernel
theorem d_Wo_linkOutcome_45 : decode b_Wo_linkOutcome 45 = .ok (.iadd, 1) := by decide +kernel
theorem d_Wo_linkOutcome_46 : decode b_Wo_linkOutcome 46 = .ok (.iastore, 1) := by decide +kernel
theorem d_Wo_linkOutcome_47 : decode b_Wo_linkOutcome 47 = .ok (.iinc 3 1, 3) := by decide +kernel
theorem d_Wo_linkOutcome_50 : decode b_Wo_linkOutcome 50 = .ok (.goto (-48), 3) := by decide +kernel
theorem d_Wo_linkOutcome_53 : decode b_Wo_linkOutcome 53 = .ok (.return_, 1) := by decide +kernel
set_option maxRecDepth 100000 in
set_option maxHeartbeats 4000000 in
theorem S_Wo_linkOutcome_0 {G : Gc} {M : Mc} {Q : State → Prop} {K : Option Value → Hp → Prop} (hG : gok G) (hM : mok G M r_Wo_linkOutcome Q K) (v0 : Nat) (v1 : Nat) (v2 : Int32) (h : Hp) (F : X G M Q 2 [(0, .ref v0), (1, .ref v1), (2, .int v2), (3, .int 0)] [] h) : X G M Q 0 [(0, .ref v0), (1, .ref v1), (2, .int v2)] [] h := by
  refine x_iconst (v := 0) hM d_Wo_linkOutcome_0 (by decide) ?_
  refine x_istore_n (lv2 := [(3, .int 0), (0, .ref v0), (1, .ref v1), (2, .int v2)]) hM d_Wo_linkOutcome_1 rfl (Nat.le_of_ble_eq_true rfl) rfl ?_
  refine x_sub [1, 2, 3, 0] rfl ?_
  exact F
set_option maxRecDepth 100000 in
set_option maxHeartbeats 4000000 in
theorem S_Wo_linkOutcome_2 {G : Gc} {M : Mc} {Q : State → Prop} {K : Option Value → Hp → Prop} (hG : gok G) (hM : mok G M r_Wo_linkOutcome Q K) (v0 : Nat) (v1 : Nat) (v2 : Int32) (v3 : Int32) (h : Hp) (F : kT h v0 = 2 ∧ (((kI h v0 1) ≤ v3 → K none h) ∧ (¬ (kI h v0 1) ≤ v3 → (kT h v1 = 4 ∧ kR h v1 1 = some (rf h v1 1) ∧ (kT h (rf h v1 1) = 50 ∧ vp_in v3 (kN h (rf h v1 1)) ∧ (((kI h (rf h v1 1) (Int32.toNatClampNeg v3)) = (-1) → X G M Q 2 [(0, .ref v0), (1, .ref v1), (2, .int v2), (3, .int (v3 + 1))] [] h) ∧ (¬ (kI h (rf h v1 1) (Int32.toNatClampNeg v3)) = (-1) → (kT h v1 = 4 ∧ kR h v1 2 = some (rf h v1 2) ∧ (kT h v0 = 2 ∧ kR h v0 7 = some (rf h v0 7) ∧ (kT h (rf h v0 7) = 50 ∧ vp_in (kI h (rf h v1 1) (Int32.toNatClampNeg v3)) (kN h (rf h v0 7)) ∧ (kT h (rf h v1 2) = 50 ∧ vp_in v3 (kN h (rf h v1 2)) ∧ (∀ h1 : Hp, h1 = wI h (rf h v1 2) (Int32.toNatClampNeg v3) (kI h (rf h v0 7) (Int32.toNatClampNeg (kI h (rf h v1 1) (Int32.toNatClampNeg v3)))) → (kT h1 v0 = 2 ∧ kR h1 v0 7 = some (rf h1 v0 7) ∧ (kT h1 (rf h1 v0 7) = 50 ∧ vp_in (kI h (rf h v1 1) (Int32.toNatClampNeg v3)) (kN h1 (rf h1 v0 7)) ∧ (∀ h2 : Hp, h2 = wI h1 (rf h1 v0 7) (Int32.toNatClampNeg (kI h (rf h v1 1) (Int32.toNatClampNeg v3))) (v2 + v3) → X G M Q 2 [(0, .ref v0), (1, .ref v1), (2, .int v2), (3, .int (v3 + 1))] [] h2))))))))))))))) : X G M Q 2 [(0, .ref v0), (1, .ref v1), (2, .int v2), (3, .int v3)] [] h := by
  refine x_iload_n hM d_Wo_linkOutcome_2 rfl 3 rfl ?_
  refine x_aload_n hM d_Wo_linkOutcome_3 rfl 0 rfl ?_
  obtain ⟨c21, F⟩ := F
  refine x_geti hG hM ck_Wo 1 (Nat.le_of_ble_eq_true rfl) rfl rfl w_125 rfl d_Wo_linkOutcome_4 c21 ?_
  refine x_icmp_ge (tgt := 53) hM d_Wo_linkOutcome_7 (by decide) (fun q20 => ?_) (fun q20 => ?_)
  · replace F := F.1 q20
    exact x_return hM d_Wo_linkOutcome_53 rfl F
  · replace F := F.2 q20
    refine x_aload_n hM d_Wo_linkOutcome_10 rfl 1 rfl ?_
    obtain ⟨c18, F⟩ := F
    obtain ⟨c19, F⟩ := F
    refine x_getr hG hM ck_Ou 1 (Nat.le_of_ble_eq_true rfl) rfl rfl w_83 rfl d_Wo_linkOutcome_11 c18 c19 ?_
    refine x_iload_n hM d_Wo_linkOutcome_14 rfl 3 rfl ?_
    obtain ⟨c16, F⟩ := F
    obtain ⟨c17, F⟩ := F
    refine x_iaload hG hM d_Wo_linkOutcome_15 c16 c17 ?_
    refine x_istore (lv2 := [(4, .int (kI h (rf h v1 1) (Int32.toNatClampNeg v3))), (0, .ref v0), (1, .ref v1), (2, .int v2), (3, .int v3)]) hM d_Wo_linkOutcome_16 (Nat.le_of_ble_eq_true rfl) rfl ?_
    refine x_iload hM d_Wo_linkOutcome_18 0 rfl ?_
    refine x_iconst (v := (-1)) hM d_Wo_linkOutcome_20 (by decide) ?_
    refine x_icmp_eq (tgt := 47) hM d_Wo_linkOutcome_21 (by decide) (fun q15 => ?_) (fun q15 => ?_)
    · replace F := F.1 q15
      refine x_iinc (v := (v3 + 1)) (lv2 := [(3, .int (v3 + 1)), (4, .int (kI h (rf h v1 1) (Int32.toNatClampNeg v3))), (0, .ref v0), (1, .ref v1), (2, .int v2)]) hM d_Wo_linkOutcome_47 (j := 4) rfl rfl (Nat.le_of_ble_eq_true rfl) rfl ?_
      refine x_goto (tgt := 2) hM d_Wo_linkOutcome_50 (by decide) ?_
      refine x_sub [2, 3, 4, 0] rfl ?_
      exact F
    · replace F := F.2 q15
      refine x_aload_n hM d_Wo_linkOutcome_24 rfl 2 rfl ?_
      obtain ⟨c13, F⟩ := F
      obtain ⟨c14, F⟩ := F
      refine x_getr hG hM ck_Ou 2 (Nat.le_of_ble_eq_true rfl) rfl rfl w_86 rfl d_Wo_linkOutcome_25 c13 c14 ?_
      refine x_iload_n hM d_Wo_linkOutcome_28 rfl 4 rfl ?_
      refine x_aload_n hM d_Wo_linkOutcome_29 rfl 1 rfl ?_
      obtain ⟨c11, F⟩ := F
      obtain ⟨c12, F⟩ := F
      refine x_getr hG hM ck_Wo 7 (Nat.le_of_ble_eq_true rfl) rfl rfl w_156 rfl d_Wo_linkOutcome_30 c11 c12 ?_
      refine x_iload hM d_Wo_linkOutcome_33 0 rfl ?_
      obtain ⟨c9, F⟩ := F
      obtain ⟨c10, F⟩ := F
      refine x_iaload hG hM d_Wo_linkOutcome_35 c9 c10 ?_
      obtain ⟨c7, F⟩ := F
      obtain ⟨c8, F⟩ := F
      obtain ⟨h1, eh1⟩ : ∃ z : Hp, z = wI h (rf h v1 2) (Int32.toNatClampNeg v3) (kI h (rf h v0 7) (Int32.toNatClampNeg (kI h (rf h v1 1) (Int32.toNatClampNeg v3)))) := ⟨_, rfl⟩
      replace F := F h1 eh1
      refine x_iastore hG hM d_Wo_linkOutcome_36 c7 c8 ?_
      rw [← eh1]
      clear eh1
      refine x_aload_n hM d_Wo_linkOutcome_37 rfl 1 rfl ?_
      obtain ⟨c5, F⟩ := F
      obtain ⟨c6, F⟩ := F
      refine x_getr hG hM ck_Wo 7 (Nat.le_of_ble_eq_true rfl) rfl rfl w_156 rfl d_Wo_linkOutcome_38 c5 c6 ?_
      refine x_iload hM d_Wo_linkOutcome_41 0 rfl ?_
      refine x_iload_n hM d_Wo_linkOutcome_43 rfl 3 rfl ?_
      refine x_iload_n hM d_Wo_linkOutcome_44 rfl 4 rfl ?_
      refine x_iadd hM d_Wo_linkOutcome_45 ?_
      obtain ⟨c3, F⟩ := F
      obtain ⟨c4, F⟩ := F
      obtain ⟨h2, eh2⟩ : ∃ z : Hp, z = wI h1 (rf h1 v0 7) (Int32.toNatClampNeg (kI h (rf h v1 1) (Int32.toNatClampNeg v3))) (v2 + v3) := ⟨_, rfl⟩
      replace F := F h2 eh2
      refine x_iastore hG hM d_Wo_linkOutcome_46 c3 c4 ?_
      rw [← eh2]
      clear eh2
      refine x_iinc (v := (v3 + 1)) (lv2 := [(3, .int (v3 + 1)), (4, .int (kI h (rf h v1 1) (Int32.toNatClampNeg v3))), (0, .ref v0), (1, .ref v1), (2, .int v2)]) hM d_Wo_linkOutcome_47 (j := 4) rfl rfl (Nat.le_of_ble_eq_true rfl) rfl ?_
      refine x_goto (tgt := 2) hM d_Wo_linkOutcome_50 (by decide) ?_
      refine x_sub [2, 3, 4, 0] rfl ?_
      exact F
theorem d_Wo_nextInto_0 : decode b_Wo_nextInto 0 = .ok (.aload_n 0, 1) := by decide +kernel
theorem d_Wo_nextInto_1 : decode b_Wo_nextInto 1 = .ok (.getfield 30, 3) := by decide +kernel
theorem d_Wo_nextInto_4 : decode b_Wo_nextInto 4 = .ok (.iload_n 1, 1) := by decide +kernel
theorem d_Wo_nextInto_5 : decode b_Wo_nextInto 5 = .ok (.bipush 14, 2) := by decide +kernel
theorem d_Wo_nextInto_7 : decode b_Wo_nextInto 7 = .ok (.ishr, 1) := by decide +kernel
theorem d_Wo_nextInto_8 : decode b_Wo_nextInto 8 = .ok (.aaload, 1) := by decide +kernel
theorem d_Wo_nextInto_9 : decode b_Wo_nextInto 9 = .ok (.getfield 90, 3) := by decide +kernel
theorem d_Wo_nextInto_12 : decode b_Wo_nextInto 12 = .ok (.iload_n 1, 1) := by decide +kernel
theorem d_Wo_nextInto_13 : decode b_Wo_nextInto 13 = .ok (.bipush 12, 2) := by decide +kernel
theorem d_Wo_nextInto_15 : decode b_Wo_nextInto 15 = .ok (.ishr, 1) := by decide +kernel
theorem d_Wo_nextInto_16 : decode b_Wo_nextInto 16 = .ok (.iconst 3, 1) := by decide +kernel
theorem d_Wo_nextInto_17 : decode b_Wo_nextInto 17 = .ok (.iand, 1) := by decide +kernel
theorem d_Wo_nextInto_18 : decode b_Wo_nextInto 18 = .ok (.aaload, 1) := by decide +kernel
theorem d_Wo_nextInto_19 : decode b_Wo_nextInto 19 = .ok (.getfield 105, 3) := by decide +kernel
theorem d_Wo_nextInto_22 : decode b_Wo_nextInto 22 = .ok (.iload_n 1, 1) := by decide +kernel
theorem d_Wo_nextInto_23 : decode b_Wo_nextInto 23 = .ok (.sipush 4095, 3) := by decide +kernel
theorem d_Wo_nextInto_26 : decode b_Wo_nextInto 26 = .ok (.iand, 1) := by decide +kernel
theorem d_Wo_nextInto_27 : decode b_Wo_nextInto 27 = .ok (.iaload, 1) := by decide +kernel
theorem d_Wo_nextInto_28 : decode b_Wo_nextInto 28 = .ok (.ireturn, 1) := by decide +kernel
set_option maxRecDepth 100000 in
set_option maxHeartbeats 4000000 in
theorem S_Wo_nextInto_0 {G : Gc} {M : Mc} {Q : State → Prop} {K : Option Value → Hp → Prop} (hG : gok G) (hM : mok G M r_Wo_nextInto Q K) (v0 : Nat) (v1 : Int32) (h : Hp) (F : kT h v0 = 2 ∧ kR h v0 5 = some (rf h v0 5) ∧ (kT h (rf h v0 5) = 53 ∧ vp_in (v1 >>> (14 &&& 31)) (kN h (rf h v0 5)) ∧ kR h (rf h v0 5) (Int32.toNatClampNeg (v1 >>> (14 &&& 31))) = some (rf h (rf h v0 5) (Int32.toNatClampNeg (v1 >>> (14 &&& 31)))) ∧ (kT h (rf h (rf h v0 5) (Int32.toNatClampNeg (v1 >>> (14 &&& 31)))) = 3 ∧ kR h (rf h (rf h v0 5) (Int32.toNatClampNeg (v1 >>> (14 &&& 31)))) 1 = some (rf h (rf h (rf h v0 5) (Int32.toNatClampNeg (v1 >>> (14 &&& 31)))) 1) ∧ (kT h (rf h (rf h (rf h v0 5) (Int32.toNatClampNeg (v1 >>> (14 &&& 31)))) 1) = 54 ∧ vp_in ((v1 >>> (12 &&& 31)) &&& 3) (kN h (rf h (rf h (rf h v0 5) (Int32.toNatClampNeg (v1 >>> (14 &&& 31)))) 1)) ∧ kR h (rf h (rf h (rf h v0 5) (Int32.toNatClampNeg (v1 >>> (14 &&& 31)))) 1) (Int32.toNatClampNeg ((v1 >>> (12 &&& 31)) &&& 3)) = some (rf h (rf h (rf h (rf h v0 5) (Int32.toNatClampNeg (v1 >>> (14 &&& 31)))) 1) (Int32.toNatClampNeg ((v1 >>> (12 &&& 31)) &&& 3))) ∧ (kT h (rf h (rf h (rf h (rf h v0 5) (Int32.toNatClampNeg (v1 >>> (14 &&& 31)))) 1) (Int32.toNatClampNeg ((v1 >>> (12 &&& 31)) &&& 3))) = 4 ∧ kR h (rf h (rf h (rf h (rf h v0 5) (Int32.toNatClampNeg (v1 >>> (14 &&& 31)))) 1) (Int32.toNatClampNeg ((v1 >>> (12 &&& 31)) &&& 3))) 2 = some (rf h (rf h (rf h (rf h (rf h v0 5) (Int32.toNatClampNeg (v1 >>> (14 &&& 31)))) 1) (Int32.toNatClampNeg ((v1 >>> (12 &&& 31)) &&& 3))) 2) ∧ (kT h (rf h (rf h (rf h (rf h (rf h v0 5) (Int32.toNatClampNeg (v1 >>> (14 &&& 31)))) 1) (Int32.toNatClampNeg ((v1 >>> (12 &&& 31)) &&& 3))) 2) = 50 ∧ vp_in (v1 &&& 4095) (kN h (rf h (rf h (rf h (rf h (rf h v0 5) (Int32.toNatClampNeg (v1 >>> (14 &&& 31)))) 1) (Int32.toNatClampNeg ((v1 >>> (12 &&& 31)) &&& 3))) 2)) ∧ K (some (.int (kI h (rf h (rf h (rf h (rf h (rf h v0 5) (Int32.toNatClampNeg (v1 >>> (14 &&& 31)))) 1) (Int32.toNatClampNeg ((v1 >>> (12 &&& 31)) &&& 3))) 2) (Int32.toNatClampNeg (v1 &&& 4095))))) h)))))) : X G M Q 0 [(0, .ref v0), (1, .int v1)] [] h := by
  refine x_aload_n hM d_Wo_nextInto_0 rfl 0 rfl ?_
  obtain ⟨c13, F⟩ := F
  obtain ⟨c14, F⟩ := F
  refine x_getr hG hM ck_Wo 5 (Nat.le_of_ble_eq_true rfl) rfl rfl w_143 rfl d_Wo_nextInto_1 c13 c14 ?_
  refine x_iload_n hM d_Wo_nextInto_4 rfl 1 rfl ?_
  refine x_bipush (v := 14) hM d_Wo_nextInto_5 (by decide) ?_
  refine x_ishr hM d_Wo_nextInto_7 ?_
  obtain ⟨c10, F⟩ := F
  obtain ⟨c11, F⟩ := F
  obtain ⟨c12, F⟩ := F
  refine x_aaload hG hM 53 rfl (Nat.le_of_ble_eq_true rfl) d_Wo_nextInto_8 c10 c11 c12 ?_
  obtain ⟨c8, F⟩ := F
  obtain ⟨c9, F⟩ := F
  refine x_getr hG hM ck_Ac 1 (Nat.le_of_ble_eq_true rfl) rfl rfl w_103 rfl d_Wo_nextInto_9 c8 c9 ?_
  refine x_iload_n hM d_Wo_nextInto_12 rfl 1 rfl ?_
  refine x_bipush (v := 12) hM d_Wo_nextInto_13 (by decide) ?_
  refine x_ishr hM d_Wo_nextInto_15 ?_
  refine x_iconst (v := 3) hM d_Wo_nextInto_16 (by decide) ?_
  refine x_iand hM d_Wo_nextInto_17 ?_
  obtain ⟨c5, F⟩ := F
  obtain ⟨c6, F⟩ := F
  obtain ⟨c7, F⟩ := F
  refine x_aaload hG hM 54 rfl (Nat.le_of_ble_eq_true rfl) d_Wo_nextInto_18 c5 c6 c7 ?_
  obtain ⟨c3, F⟩ := F
  obtain ⟨c4, F⟩ := F
  refine x_getr hG hM ck_Ou 2 (Nat.le_of_ble_eq_true rfl) rfl rfl w_86 rfl d_Wo_nextInto_19 c3 c4 ?_
  refine x_iload_n hM d_Wo_nextInto_22 rfl 1 rfl ?_
  refine x_sipush (v := 4095) hM d_Wo_nextInto_23 (by decide) ?_
  refine x_iand hM d_Wo_nextInto_26 ?_
  obtain ⟨c1, F⟩ := F
  obtain ⟨c2, F⟩ := F
  refine x_iaload hG hM d_Wo_nextInto_27 c1 c2 ?_
  exact x_ireturn hM d_Wo_nextInto_28 rfl F
theorem d_Wo_behind_0 : decode b_Wo_behind 0 = .ok (.aload_n 0, 1) := by decide +kernel
theorem d_Wo_behind_1 : decode b_Wo_behind 1 = .ok (.getfield 30, 3) := by decide +kernel
theorem d_Wo_behind_4 : decode b_Wo_behind 4 = .ok (.iload_n 1, 1) := by decide +kernel
theorem d_Wo_behind_5 : decode b_Wo_behind 5 = .ok (.invokestatic 86, 3) := by decide +kernel
theorem d_Wo_behind_8 : decode b_Wo_behind 8 = .ok (.aaload, 1) := by decide +kernel
theorem d_Wo_behind_9 : decode b_Wo_behind 9 = .ok (.getfield 90, 3) := by decide +kernel
theorem d_Wo_behind_12 : decode b_Wo_behind 12 = .ok (.iload_n 1, 1) := by decide +kernel
theorem d_Wo_behind_13 : decode b_Wo_behind 13 = .ok (.invokestatic 94, 3) := by decide +kernel
theorem d_Wo_behind_16 : decode b_Wo_behind 16 = .ok (.aaload, 1) := by decide +kernel
theorem d_Wo_behind_17 : decode b_Wo_behind 17 = .ok (.getfield 97, 3) := by decide +kernel
theorem d_Wo_behind_20 : decode b_Wo_behind 20 = .ok (.iload_n 1, 1) := by decide +kernel
theorem d_Wo_behind_21 : decode b_Wo_behind 21 = .ok (.invokestatic 102, 3) := by decide +kernel
theorem d_Wo_behind_24 : decode b_Wo_behind 24 = .ok (.iaload, 1) := by decide +kernel
theorem d_Wo_behind_25 : decode b_Wo_behind 25 = .ok (.ireturn, 1) := by decide +kernel
set_option maxRecDepth 100000 in
set_option maxHeartbeats 4000000 in
theorem S_Wo_behind_0 {G : Gc} {M : Mc} {Q : State → Prop} {K : Option Value → Hp → Prop} (hG : gok G) (hM : mok G M r_Wo_behind Q K) (v0 : Nat) (v1 : Int32) (h : Hp) (F : kT h v0 = 2 ∧ kR h v0 5 = some (rf h v0 5) ∧ (sem G r_WP_actOf [.int v1] h (fun u2 h1 => ∃ x3 : Int32, u2 = some (.int x3) ∧ (kT h1 (rf h v0 5) = 53 ∧ vp_in x3 (kN h1 (rf h v0 5)) ∧ kR h1 (rf h v0 5) (Int32.toNatClampNeg x3) = some (rf h1 (rf h v0 5) (Int32.toNatClampNeg x3)) ∧ (kT h1 (rf h1 (rf h v0 5) (Int32.toNatClampNeg x3)) = 3 ∧ kR h1 (rf h1 (rf h v0 5) (Int32.toNatClampNeg x3)) 1 = some (rf h1 (rf h1 (rf h v0 5) (Int32.toNatClampNeg x3)) 1) ∧ (sem G r_WP_outcomeOf [.int v1] h1 (fun u5 h4 => ∃ x6 : Int32, u5 = some (.int x6) ∧ (kT h4 (rf h1 (rf h1 (rf h v0 5) (Int32.toNatClampNeg x3)) 1) = 54 ∧ vp_in x6 (kN h4 (rf h1 (rf h1 (rf h v0 5) (Int32.toNatClampNeg x3)) 1)) ∧ kR h4 (rf h1 (rf h1 (rf h v0 5) (Int32.toNatClampNeg x3)) 1) (Int32.toNatClampNeg x6) = some (rf h4 (rf h1 (rf h1 (rf h v0 5) (Int32.toNatClampNeg x3)) 1) (Int32.toNatClampNeg x6)) ∧ (kT h4 (rf h4 (rf h1 (rf h1 (rf h v0 5) (Int32.toNatClampNeg x3)) 1) (Int32.toNatClampNeg x6)) = 4 ∧ kR h4 (rf h4 (rf h1 (rf h1 (rf h v0 5) (Int32.toNatClampNeg x3)) 1) (Int32.toNatClampNeg x6)) 1 = some (rf h4 (rf h4 (rf h1 (rf h1 (rf h v0 5) (Int32.toNatClampNeg x3)) 1) (Int32.toNatClampNeg x6)) 1) ∧ (sem G r_WP_stateOf [.int v1] h4 (fun u8 h7 => ∃ x9 : Int32, u8 = some (.int x9) ∧ (kT h7 (rf h4 (rf h4 (rf h1 (rf h1 (rf h v0 5) (Int32.toNatClampNeg x3)) 1) (Int32.toNatClampNeg x6)) 1) = 50 ∧ vp_in x9 (kN h7 (rf h4 (rf h4 (rf h1 (rf h1 (rf h v0 5) (Int32.toNatClampNeg x3)) 1) (Int32.toNatClampNeg x6)) 1)) ∧ K (some (.int (kI h7 (rf h4 (rf h4 (rf h1 (rf h1 (rf h v0 5) (Int32.toNatClampNeg x3)) 1) (Int32.toNatClampNeg x6)) 1) (Int32.toNatClampNeg x9)))) h7)))))))))))) : X G M Q 0 [(0, .ref v0), (1, .int v1)] [] h := by
  refine x_aload_n hM d_Wo_behind_0 rfl 0 rfl ?_
  obtain ⟨c22, F⟩ := F
  obtain ⟨c23, F⟩ := F
  refine x_getr hG hM ck_Wo 5 (Nat.le_of_ble_eq_true rfl) rfl rfl w_143 rfl d_Wo_behind_1 c22 c23 ?_
  refine x_iload_n hM d_Wo_behind_4 rfl 1 rfl ?_
  refine x_callSN hG hM (r' := r_WP_actOf) [.int v1] rfl yk_WP_actOf ⟨Nat.le_of_ble_eq_true rfl, Nat.le_of_ble_eq_true rfl⟩ w_798 w_672 rfl rfl (Nat.le_of_ble_eq_true rfl) d_Wo_behind_5 (sem_mono F ?_)
  intro u2 h1 F
  obtain ⟨x3, rfl, F⟩ := F
  obtain ⟨c19, F⟩ := F
  obtain ⟨c20, F⟩ := F
  obtain ⟨c21, F⟩ := F
  refine x_aaload hG hM 53 rfl (Nat.le_of_ble_eq_true rfl) d_Wo_behind_8 c19 c20 c21 ?_
  obtain ⟨c17, F⟩ := F
  obtain ⟨c18, F⟩ := F
  refine x_getr hG hM ck_Ac 1 (Nat.le_of_ble_eq_true rfl) rfl rfl w_103 rfl d_Wo_behind_9 c17 c18 ?_
  refine x_iload_n hM d_Wo_behind_12 rfl 1 rfl ?_
  refine x_callSN hG hM (r' := r_WP_outcomeOf) [.int v1] rfl yk_WP_outcomeOf ⟨Nat.le_of_ble_eq_true rfl, Nat.le_of_ble_eq_true rfl⟩ w_799 w_800 rfl rfl (Nat.le_of_ble_eq_true rfl) d_Wo_behind_13 (sem_mono F ?_)
  intro u5 h4 F
  obtain ⟨x6, rfl, F⟩ := F
  obtain ⟨c14, F⟩ := F
  obtain ⟨c15, F⟩ := F
  obtain ⟨c16, F⟩ := F
  refine x_aaload hG hM 54 rfl (Nat.le_of_ble_eq_true rfl) d_Wo_behind_16 c14 c15 c16 ?_
  obtain ⟨c12, F⟩ := F
  obtain ⟨c13, F⟩ := F
  refine x_getr hG hM ck_Ou 1 (Nat.le_of_ble_eq_true rfl) rfl rfl w_83 rfl d_Wo_behind_17 c12 c13 ?_
  refine x_iload_n hM d_Wo_behind_20 rfl 1 rfl ?_
  refine x_callSN hG hM (r' := r_WP_stateOf) [.int v1] rfl yk_WP_stateOf ⟨Nat.le_of_ble_eq_true rfl, Nat.le_of_ble_eq_true rfl⟩ w_802 w_665 rfl rfl (Nat.le_of_ble_eq_true rfl) d_Wo_behind_21 (sem_mono F ?_)
  intro u8 h7 F
  obtain ⟨x9, rfl, F⟩ := F
  obtain ⟨c10, F⟩ := F
  obtain ⟨c11, F⟩ := F
  refine x_iaload hG hM d_Wo_behind_24 c10 c11 ?_
  exact x_ireturn hM d_Wo_behind_25 rfl F
