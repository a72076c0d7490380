set_option maxRecDepth 100000 in
set_option maxHeartbeats 4000000 in
theorem T_Ar_fill_0 {G : Gc} {M : Mc} {Q : State → Prop} {ad0 : Ro → Nat} {K : (Ro → Nat) → Option Value → Rs → Prop} (hG : gok G) (hM : mok G M r_Ar_fill Q (KV G [] ad0 K)) (g0 : Ro) (og0 : okR g0 = true) (tg0 : tgR g0 = 50) (v1 : Int32) (v2 : Int32) (v3 : Int32) (ρ : Rs) (F : semV G r_Ar_rangeCheck [] (fun ad => [.int (nI (nR ρ g0)), .int v1, .int v2]) ρ (fun ad u2 ρ1 => u2 = none ∧ (Y G [] ad0 M Q 10 (fun ad => [(0, .ref (ad g0)), (2, .int v2), (3, .int v3), (4, .int v1)]) (fun ad => []) ρ1))) : Y G [] ad0 M Q 0 (fun ad => [(0, .ref (ad g0)), (1, .int v1), (2, .int v2), (3, .int v3)]) (fun ad => []) ρ := by
  intro ad h hSt V
  show X G M Q 0 [(0, .ref (ad g0)), (1, .int v1), (2, .int v2), (3, .int v3)] [] h
  refine x_aload_n hM d_Ar_fill_0 rfl 0 rfl ?_
  refine y_alen hG hM V 50 rfl (Nat.le_of_ble_eq_true rfl) d_Ar_fill_1 g0 og0 tg0 ?_
  refine x_iload_n hM d_Ar_fill_2 rfl 1 rfl ?_
  refine x_iload_n hM d_Ar_fill_3 rfl 2 rfl ?_
  refine x_callS hG hM (r' := r_Ar_rangeCheck) [.int (nI (nR ρ g0)), .int v1, .int v2] rfl yk_Ar_rangeCheck ⟨Nat.le_of_ble_eq_true rfl, Nat.le_of_ble_eq_true rfl⟩ w_606 w_607 rfl rfl (Nat.le_of_ble_eq_true rfl) d_Ar_fill_4 (sem_mono (F _ _ V) ?_)
  intro u2 h F
  obtain ⟨ad4, ρ1, V, hs3, F⟩ := F
  obtain ⟨rfl, F⟩ := F
  have hs3 := (St_eq hs3).symm
  subst hs3
  refine x_iload_n hM d_Ar_fill_7 rfl 1 rfl ?_
  refine x_istore (lv2 := [(4, .int v1), (0, .ref (ad g0)), (1, .int v1), (2, .int v2), (3, .int v3)]) hM d_Ar_fill_8 (Nat.le_of_ble_eq_true rfl) rfl ?_
  refine x_sub [1, 3, 4, 0] rfl ?_
  exact F _ _ hSt V
set_option maxRecDepth 100000 in
set_option maxHeartbeats 4000000 in
theorem T_Ar_fill_10 {G : Gc} {M : Mc} {Q : State → Prop} {ad0 : Ro → Nat} {K : (Ro → Nat) → Option Value → Rs → Prop} (hG : gok G) (hM : mok G M r_Ar_fill Q (KV G [] ad0 K)) (g0 : Ro) (og0 : okR g0 = true) (tg0 : tgR g0 = 50) (v2 : Int32) (v3 : Int32) (v4 : Int32) (ρ : Rs) (F : (v2 ≤ v4 → (∀ ad, K ad none ρ)) ∧ (¬ v2 ≤ v4 → (vp_in v4 (nR ρ g0) ∧ (∀ ρ1 : Rs, ρ1 = pI ρ g0 (Int32.toNatClampNeg v4) v3 → (Y G [] ad0 M Q 10 (fun ad => [(0, .ref (ad g0)), (2, .int v2), (3, .int v3), (4, .int (v4 + 1))]) (fun ad => []) ρ1))))) : Y G [] ad0 M Q 10 (fun ad => [(0, .ref (ad g0)), (2, .int v2), (3, .int v3), (4, .int v4)]) (fun ad => []) ρ := by
  intro ad h hSt V
  show X G M Q 10 [(0, .ref (ad g0)), (2, .int v2), (3, .int v3), (4, .int v4)] [] h
  refine x_iload hM d_Ar_fill_10 3 rfl ?_
  refine x_iload_n hM d_Ar_fill_12 rfl 1 rfl ?_
  refine x_icmp_ge (tgt := 27) hM d_Ar_fill_13 (by decide) (fun q3 => ?_) (fun q3 => ?_)
  · replace F := F.1 q3
    exact x_return hM d_Ar_fill_27 rfl (y_end V hSt (F _))
  · replace F := F.2 q3
    refine x_aload_n hM d_Ar_fill_16 rfl 0 rfl ?_
    refine x_iload hM d_Ar_fill_17 3 rfl ?_
    refine x_iload_n hM d_Ar_fill_19 rfl 2 rfl ?_
    obtain ⟨c2, F⟩ := F
    obtain ⟨ρ1, eρ1⟩ : ∃ z : Rs, z = pI ρ g0 (Int32.toNatClampNeg v4) v3 := ⟨_, rfl⟩
    replace F := F ρ1 eρ1
    refine y_iastore hG hM V d_Ar_fill_20 g0 og0 tg0 c2 (fun h V => ?_)
    rw [← eρ1] at V
    clear eρ1
    refine x_iinc (v := (v4 + 1)) (lv2 := [(4, .int (v4 + 1)), (0, .ref (ad g0)), (2, .int v2), (3, .int v3)]) hM d_Ar_fill_21 (j := 3) rfl rfl (Nat.le_of_ble_eq_true rfl) rfl ?_
    refine x_goto (tgt := 10) hM d_Ar_fill_24 (by decide) ?_
    refine x_sub [1, 2, 3, 0] rfl ?_
    exact F _ _ hSt V
set_option maxRecDepth 100000 in
set_option maxHeartbeats 4000000 in
theorem T_Ar_rangeCheck_0 {G : Gc} {M : Mc} {Q : State → Prop} {ad0 : Ro → Nat} {K : (Ro → Nat) → Option Value → Rs → Prop} (hG : gok G) (hM : mok G M r_Ar_rangeCheck Q (KV G [] ad0 K)) (v0 : Int32) (v1 : Int32) (v2 : Int32) (ρ : Rs) (F : (v1 ≤ v2 → ((0 ≤ v1 → ((v2 ≤ v0 → (∀ ad, K ad none ρ)) ∧ (¬ v2 ≤ v0 → False))) ∧ (¬ 0 ≤ v1 → False))) ∧ (¬ v1 ≤ v2 → False)) : Y G [] ad0 M Q 0 (fun ad => [(0, .int v0), (1, .int v1), (2, .int v2)]) (fun ad => []) ρ := by
  intro ad h hSt V
  show X G M Q 0 [(0, .int v0), (1, .int v1), (2, .int v2)] [] h
  refine x_iload_n hM d_Ar_rangeCheck_0 rfl 1 rfl ?_
  refine x_iload_n hM d_Ar_rangeCheck_1 rfl 2 rfl ?_
  refine x_icmp_le (tgt := 46) hM d_Ar_rangeCheck_2 (by decide) (fun q3 => ?_) (fun q3 => ?_)
  · replace F := F.1 q3
    refine x_iload_n hM d_Ar_rangeCheck_46 rfl 1 rfl ?_
    refine x_if_ge (tgt := 59) hM d_Ar_rangeCheck_47 (by decide) (fun q2 => ?_) (fun q2 => ?_)
    · replace F := F.1 q2
      refine x_iload_n hM d_Ar_rangeCheck_59 rfl 2 rfl ?_
      refine x_iload_n hM d_Ar_rangeCheck_60 rfl 0 rfl ?_
      refine x_icmp_le (tgt := 73) hM d_Ar_rangeCheck_61 (by decide) (fun q1 => ?_) (fun q1 => ?_)
      · replace F := F.1 q1
        exact x_return hM d_Ar_rangeCheck_73 rfl (y_end V hSt (F _))
      · replace F := F.2 q1
        exact F.elim
    · replace F := F.2 q2
      exact F.elim
  · replace F := F.2 q3
    exact F.elim
