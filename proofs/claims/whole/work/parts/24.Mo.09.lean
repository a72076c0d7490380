theorem d_Mo_signOf_0 : decode b_Mo_signOf 0 = .ok (.aload_n 0, 1) := by decide +kernel
theorem d_Mo_signOf_1 : decode b_Mo_signOf 1 = .ok (.getfield 73, 3) := by decide +kernel
theorem d_Mo_signOf_4 : decode b_Mo_signOf 4 = .ok (.iload_n 1, 1) := by decide +kernel
theorem d_Mo_signOf_5 : decode b_Mo_signOf 5 = .ok (.iaload, 1) := by decide +kernel
theorem d_Mo_signOf_6 : decode b_Mo_signOf 6 = .ok (.i2l, 1) := by decide +kernel
theorem d_Mo_signOf_7 : decode b_Mo_signOf 7 = .ok (.lconst 1, 1) := by decide +kernel
theorem d_Mo_signOf_8 : decode b_Mo_signOf 8 = .ok (.ladd, 1) := by decide +kernel
theorem d_Mo_signOf_9 : decode b_Mo_signOf 9 = .ok (.lstore_n 2, 1) := by decide +kernel
theorem d_Mo_signOf_10 : decode b_Mo_signOf 10 = .ok (.iconst 0, 1) := by decide +kernel
theorem d_Mo_signOf_11 : decode b_Mo_signOf 11 = .ok (.istore 4, 2) := by decide +kernel
theorem d_Mo_signOf_13 : decode b_Mo_signOf 13 = .ok (.iload 4, 2) := by decide +kernel
theorem d_Mo_signOf_15 : decode b_Mo_signOf 15 = .ok (.aload_n 0, 1) := by decide +kernel
theorem d_Mo_signOf_16 : decode b_Mo_signOf 16 = .ok (.getfield 112, 3) := by decide +kernel
theorem d_Mo_signOf_19 : decode b_Mo_signOf 19 = .ok (.if_icmp .ge 177, 3) := by decide +kernel
theorem d_Mo_signOf_22 : decode b_Mo_signOf 22 = .ok (.lconst 1, 1) := by decide +kernel
theorem d_Mo_signOf_23 : decode b_Mo_signOf 23 = .ok (.lstore 5, 2) := by decide +kernel
theorem d_Mo_signOf_25 : decode b_Mo_signOf 25 = .ok (.iconst 0, 1) := by decide +kernel
theorem d_Mo_signOf_26 : decode b_Mo_signOf 26 = .ok (.istore 7, 2) := by decide +kernel
theorem d_Mo_signOf_28 : decode b_Mo_signOf 28 = .ok (.iload 7, 2) := by decide +kernel
theorem d_Mo_signOf_30 : decode b_Mo_signOf 30 = .ok (.aload_n 0, 1) := by decide +kernel
theorem d_Mo_signOf_31 : decode b_Mo_signOf 31 = .ok (.getfield 13, 3) := by decide +kernel
theorem d_Mo_signOf_34 : decode b_Mo_signOf 34 = .ok (.iload 4, 2) := by decide +kernel
theorem d_Mo_signOf_36 : decode b_Mo_signOf 36 = .ok (.iaload, 1) := by decide +kernel
theorem d_Mo_signOf_37 : decode b_Mo_signOf 37 = .ok (.if_icmp .ge 133, 3) := by decide +kernel
theorem d_Mo_signOf_40 : decode b_Mo_signOf 40 = .ok (.aload_n 0, 1) := by decide +kernel
theorem d_Mo_signOf_41 : decode b_Mo_signOf 41 = .ok (.getfield 35, 3) := by decide +kernel
theorem d_Mo_signOf_44 : decode b_Mo_signOf 44 = .ok (.bipush 36, 2) := by decide +kernel
theorem d_Mo_signOf_46 : decode b_Mo_signOf 46 = .ok (.iload_n 1, 1) := by decide +kernel
theorem d_Mo_signOf_47 : decode b_Mo_signOf 47 = .ok (.imul, 1) := by decide +kernel
theorem d_Mo_signOf_48 : decode b_Mo_signOf 48 = .ok (.iconst 3, 1) := by decide +kernel
theorem d_Mo_signOf_49 : decode b_Mo_signOf 49 = .ok (.iload 4, 2) := by decide +kernel
theorem d_Mo_signOf_51 : decode b_Mo_signOf 51 = .ok (.imul, 1) := by decide +kernel
theorem d_Mo_signOf_52 : decode b_Mo_signOf 52 = .ok (.iadd, 1) := by decide +kernel
theorem d_Mo_signOf_53 : decode b_Mo_signOf 53 = .ok (.iload 7, 2) := by decide +kernel
theorem d_Mo_signOf_55 : decode b_Mo_signOf 55 = .ok (.iadd, 1) := by decide +kernel
theorem d_Mo_signOf_56 : decode b_Mo_signOf 56 = .ok (.iaload, 1) := by decide +kernel
theorem d_Mo_signOf_57 : decode b_Mo_signOf 57 = .ok (.istore 8, 2) := by decide +kernel
theorem d_Mo_signOf_59 : decode b_Mo_signOf 59 = .ok (.iconst 0, 1) := by decide +kernel
theorem d_Mo_signOf_60 : decode b_Mo_signOf 60 = .ok (.istore 9, 2) := by decide +kernel
theorem d_Mo_signOf_62 : decode b_Mo_signOf 62 = .ok (.iconst 0, 1) := by decide +kernel
theorem d_Mo_signOf_63 : decode b_Mo_signOf 63 = .ok (.istore 10, 2) := by decide +kernel
theorem d_Mo_signOf_65 : decode b_Mo_signOf 65 = .ok (.iload 10, 2) := by decide +kernel
theorem d_Mo_signOf_67 : decode b_Mo_signOf 67 = .ok (.iload 7, 2) := by decide +kernel
theorem d_Mo_signOf_69 : decode b_Mo_signOf 69 = .ok (.if_icmp .ge 59, 3) := by decide +kernel
theorem d_Mo_signOf_72 : decode b_Mo_signOf 72 = .ok (.iload 8, 2) := by decide +kernel
theorem d_Mo_signOf_74 : decode b_Mo_signOf 74 = .ok (.iconst (-1), 1) := by decide +kernel
theorem d_Mo_signOf_75 : decode b_Mo_signOf 75 = .ok (.if_icmp .eq 53, 3) := by decide +kernel
theorem d_Mo_signOf_78 : decode b_Mo_signOf 78 = .ok (.iload 9, 2) := by decide +kernel
theorem d_Mo_signOf_80 : decode b_Mo_signOf 80 = .ok (.ifCond .ne 35, 3) := by decide +kernel
theorem d_Mo_signOf_83 : decode b_Mo_signOf 83 = .ok (.aload_n 0, 1) := by decide +kernel
theorem d_Mo_signOf_84 : decode b_Mo_signOf 84 = .ok (.getfield 73, 3) := by decide +kernel
theorem d_Mo_signOf_87 : decode b_Mo_signOf 87 = .ok (.aload_n 0, 1) := by decide +kernel
theorem d_Mo_signOf_88 : decode b_Mo_signOf 88 = .ok (.getfield 35, 3) := by decide +kernel
theorem d_Mo_signOf_91 : decode b_Mo_signOf 91 = .ok (.bipush 36, 2) := by decide +kernel
theorem d_Mo_signOf_93 : decode b_Mo_signOf 93 = .ok (.iload_n 1, 1) := by decide +kernel
theorem d_Mo_signOf_94 : decode b_Mo_signOf 94 = .ok (.imul, 1) := by decide +kernel
theorem d_Mo_signOf_95 : decode b_Mo_signOf 95 = .ok (.iconst 3, 1) := by decide +kernel
theorem d_Mo_signOf_96 : decode b_Mo_signOf 96 = .ok (.iload 4, 2) := by decide +kernel
theorem d_Mo_signOf_98 : decode b_Mo_signOf 98 = .ok (.imul, 1) := by decide +kernel
theorem d_Mo_signOf_99 : decode b_Mo_signOf 99 = .ok (.iadd, 1) := by decide +kernel
theorem d_Mo_signOf_100 : decode b_Mo_signOf 100 = .ok (.iload 10, 2) := by decide +kernel
theorem d_Mo_signOf_102 : decode b_Mo_signOf 102 = .ok (.iadd, 1) := by decide +kernel
theorem d_Mo_signOf_103 : decode b_Mo_signOf 103 = .ok (.iaload, 1) := by decide +kernel
theorem d_Mo_signOf_104 : decode b_Mo_signOf 104 = .ok (.iaload, 1) := by decide +kernel
theorem d_Mo_signOf_105 : decode b_Mo_signOf 105 = .ok (.aload_n 0, 1) := by decide +kernel
theorem d_Mo_signOf_106 : decode b_Mo_signOf 106 = .ok (.getfield 73, 3) := by decide +kernel
theorem d_Mo_signOf_109 : decode b_Mo_signOf 109 = .ok (.iload 8, 2) := by decide +kernel
theorem d_Mo_signOf_111 : decode b_Mo_signOf 111 = .ok (.iaload, 1) := by decide +kernel
theorem d_Mo_signOf_112 : decode b_Mo_signOf 112 = .ok (.if_icmp .ne 7, 3) := by decide +kernel
theorem d_Mo_signOf_115 : decode b_Mo_signOf 115 = .ok (.iconst 1, 1) := by decide +kernel
theorem d_Mo_signOf_116 : decode b_Mo_signOf 116 = .ok (.goto 4, 3) := by decide +kernel
theorem d_Mo_signOf_119 : decode b_Mo_signOf 119 = .ok (.iconst 0, 1) := by decide +kernel
theorem d_Mo_signOf_120 : decode b_Mo_signOf 120 = .ok (.istore 9, 2) := by decide +kernel
theorem d_Mo_signOf_122 : decode b_Mo_signOf 122 = .ok (.iinc 10 1, 3) := by decide +kernel
theorem d_Mo_signOf_125 : decode b_Mo_signOf 125 = .ok (.goto (-60), 3) := by decide +kernel
theorem d_Mo_signOf_128 : decode b_Mo_signOf 128 = .ok (.lload 5, 2) := by decide +kernel
theorem d_Mo_signOf_130 : decode b_Mo_signOf 130 = .ok (.iload 8, 2) := by decide +kernel
theorem d_Mo_signOf_132 : decode b_Mo_signOf 132 = .ok (.iconst (-1), 1) := by decide +kernel
theorem d_Mo_signOf_133 : decode b_Mo_signOf 133 = .ok (.if_icmp .eq 8, 3) := by decide +kernel
theorem d_Mo_signOf_136 : decode b_Mo_signOf 136 = .ok (.iload 9, 2) := by decide +kernel
theorem d_Mo_signOf_138 : decode b_Mo_signOf 138 = .ok (.ifCond .eq 7, 3) := by decide +kernel
theorem d_Mo_signOf_141 : decode b_Mo_signOf 141 = .ok (.lconst 0, 1) := by decide +kernel
theorem d_Mo_signOf_142 : decode b_Mo_signOf 142 = .ok (.goto 19, 3) := by decide +kernel
theorem d_Mo_signOf_145 : decode b_Mo_signOf 145 = .ok (.aload_n 0, 1) := by decide +kernel
theorem d_Mo_signOf_146 : decode b_Mo_signOf 146 = .ok (.getfield 73, 3) := by decide +kernel
theorem d_Mo_signOf_149 : decode b_Mo_signOf 149 = .ok (.iload 8, 2) := by decide +kernel
theorem d_Mo_signOf_151 : decode b_Mo_signOf 151 = .ok (.iaload, 1) := by decide +kernel
theorem d_Mo_signOf_152 : decode b_Mo_signOf 152 = .ok (.i2l, 1) := by decide +kernel
theorem d_Mo_signOf_153 : decode b_Mo_signOf 153 = .ok (.ldc2_w 183, 3) := by decide +kernel
theorem d_Mo_signOf_156 : decode b_Mo_signOf 156 = .ok (.ladd, 1) := by decide +kernel
theorem d_Mo_signOf_157 : decode b_Mo_signOf 157 = .ok (.ldc2_w 185, 3) := by decide +kernel
theorem d_Mo_signOf_160 : decode b_Mo_signOf 160 = .ok (.lmul, 1) := by decide +kernel
theorem d_Mo_signOf_161 : decode b_Mo_signOf 161 = .ok (.ladd, 1) := by decide +kernel
theorem d_Mo_signOf_162 : decode b_Mo_signOf 162 = .ok (.lstore 5, 2) := by decide +kernel
theorem d_Mo_signOf_164 : decode b_Mo_signOf 164 = .ok (.iinc 7 1, 3) := by decide +kernel
theorem d_Mo_signOf_167 : decode b_Mo_signOf 167 = .ok (.goto (-139), 3) := by decide +kernel
theorem d_Mo_signOf_170 : decode b_Mo_signOf 170 = .ok (.lload_n 2, 1) := by decide +kernel
theorem d_Mo_signOf_171 : decode b_Mo_signOf 171 = .ok (.ldc2_w 187, 3) := by decide +kernel
theorem d_Mo_signOf_174 : decode b_Mo_signOf 174 = .ok (.lmul, 1) := by decide +kernel
theorem d_Mo_signOf_175 : decode b_Mo_signOf 175 = .ok (.lload 5, 2) := by decide +kernel
theorem d_Mo_signOf_177 : decode b_Mo_signOf 177 = .ok (.ladd, 1) := by decide +kernel
theorem d_Mo_signOf_178 : decode b_Mo_signOf 178 = .ok (.ldc2_w 189, 3) := by decide +kernel
theorem d_Mo_signOf_181 : decode b_Mo_signOf 181 = .ok (.lmul, 1) := by decide +kernel
theorem d_Mo_signOf_182 : decode b_Mo_signOf 182 = .ok (.lstore_n 2, 1) := by decide +kernel
theorem d_Mo_signOf_183 : decode b_Mo_signOf 183 = .ok (.lload_n 2, 1) := by decide +kernel
theorem d_Mo_signOf_184 : decode b_Mo_signOf 184 = .ok (.lload_n 2, 1) := by decide +kernel
theorem d_Mo_signOf_185 : decode b_Mo_signOf 185 = .ok (.bipush 29, 2) := by decide +kernel
theorem d_Mo_signOf_187 : decode b_Mo_signOf 187 = .ok (.lushr, 1) := by decide +kernel
theorem d_Mo_signOf_188 : decode b_Mo_signOf 188 = .ok (.lxor, 1) := by decide +kernel
theorem d_Mo_signOf_189 : decode b_Mo_signOf 189 = .ok (.lstore_n 2, 1) := by decide +kernel
theorem d_Mo_signOf_190 : decode b_Mo_signOf 190 = .ok (.iinc 4 1, 3) := by decide +kernel
theorem d_Mo_signOf_193 : decode b_Mo_signOf 193 = .ok (.goto (-180), 3) := by decide +kernel
theorem d_Mo_signOf_196 : decode b_Mo_signOf 196 = .ok (.lload_n 2, 1) := by decide +kernel
theorem d_Mo_signOf_197 : decode b_Mo_signOf 197 = .ok (.lreturn, 1) := by decide +kernel
set_option maxRecDepth 100000 in
set_option maxHeartbeats 4000000 in
theorem S_Mo_signOf_0 {G : Gc} {M : Mc} {Q : State → Prop} {K : Option Value → Hp → Prop} (hG : gok G) (hM : mok G M r_Mo_signOf Q K) (v0 : Nat) (v1 : Int32) (h : Hp) (F : kT h v0 = 12 ∧ kR h v0 27 = some (rf h v0 27) ∧ (kT h (rf h v0 27) = 50 ∧ vp_in v1 (kN h (rf h v0 27)) ∧ X G M Q 13 [(0, .ref v0), (1, .int v1), (2, .long ((Int32.toInt64 (kI h (rf h v0 27) (Int32.toNatClampNeg v1))) + 1)), (4, .int 0)] [] h)) : X G M Q 0 [(0, .ref v0), (1, .int v1)] [] h := by
  refine x_aload_n hM d_Mo_signOf_0 rfl 0 rfl ?_
  obtain ⟨c3, F⟩ := F
  obtain ⟨c4, F⟩ := F
  refine x_getr hG hM ck_Mo 27 (Nat.le_of_ble_eq_true rfl) rfl rfl w_924 rfl d_Mo_signOf_1 c3 c4 ?_
  refine x_iload_n hM d_Mo_signOf_4 rfl 1 rfl ?_
  obtain ⟨c1, F⟩ := F
  obtain ⟨c2, F⟩ := F
  refine x_iaload hG hM d_Mo_signOf_5 c1 c2 ?_
  refine x_i2l hM d_Mo_signOf_6 ?_
  refine x_lconst (v := 1) hM d_Mo_signOf_7 (by decide) ?_
  refine x_ladd hM d_Mo_signOf_8 ?_
  refine x_lstore_n (lv2 := [(2, .long ((Int32.toInt64 (kI h (rf h v0 27) (Int32.toNatClampNeg v1))) + 1)), (0, .ref v0), (1, .int v1)]) hM d_Mo_signOf_9 rfl (Nat.le_of_ble_eq_true rfl) rfl ?_
  refine x_iconst (v := 0) hM d_Mo_signOf_10 (by decide) ?_
  refine x_istore (lv2 := [(4, .int 0), (2, .long ((Int32.toInt64 (kI h (rf h v0 27) (Int32.toNatClampNeg v1))) + 1)), (0, .ref v0), (1, .int v1)]) hM d_Mo_signOf_11 (Nat.le_of_ble_eq_true rfl) rfl ?_
  refine x_sub [2, 3, 1, 0] rfl ?_
  exact F
set_option maxRecDepth 100000 in
set_option maxHeartbeats 4000000 in
theorem S_Mo_signOf_13 {G : Gc} {M : Mc} {Q : State → Prop} {K : Option Value → Hp → Prop} (hG : gok G) (hM : mok G M r_Mo_signOf Q K) (v0 : Nat) (v1 : Int32) (v2 : Int64) (v4 : Int32) (h : Hp) (F : kT h v0 = 12 ∧ (((kI h v0 3) ≤ v4 → K (some (.long v2)) h) ∧ (¬ (kI h v0 3) ≤ v4 → X G M Q 28 [(0, .ref v0), (1, .int v1), (2, .long v2), (4, .int v4), (5, .long 1), (7, .int 0)] [] h))) : X G M Q 13 [(0, .ref v0), (1, .int v1), (2, .long v2), (4, .int v4)] [] h := by
  refine x_iload hM d_Mo_signOf_13 3 rfl ?_
  refine x_aload_n hM d_Mo_signOf_15 rfl 0 rfl ?_
  obtain ⟨c2, F⟩ := F
  refine x_geti hG hM ck_Mo 3 (Nat.le_of_ble_eq_true rfl) rfl rfl w_900 rfl d_Mo_signOf_16 c2 ?_
  refine x_icmp_ge (tgt := 196) hM d_Mo_signOf_19 (by decide) (fun q1 => ?_) (fun q1 => ?_)
  · replace F := F.1 q1
    refine x_lload_n hM d_Mo_signOf_196 rfl 2 rfl ?_
    exact x_lreturn hM d_Mo_signOf_197 rfl F
  · replace F := F.2 q1
    refine x_lconst (v := 1) hM d_Mo_signOf_22 (by decide) ?_
    refine x_lstore (lv2 := [(5, .long 1), (0, .ref v0), (1, .int v1), (2, .long v2), (4, .int v4)]) hM d_Mo_signOf_23 (Nat.le_of_ble_eq_true rfl) rfl ?_
    refine x_iconst (v := 0) hM d_Mo_signOf_25 (by decide) ?_
    refine x_istore (lv2 := [(7, .int 0), (5, .long 1), (0, .ref v0), (1, .int v1), (2, .long v2), (4, .int v4)]) hM d_Mo_signOf_26 (Nat.le_of_ble_eq_true rfl) rfl ?_
    refine x_sub [2, 3, 4, 5, 1, 0] rfl ?_
    exact F
set_option maxRecDepth 100000 in
set_option maxHeartbeats 4000000 in
theorem S_Mo_signOf_28 {G : Gc} {M : Mc} {Q : State → Prop} {K : Option Value → Hp → Prop} (hG : gok G) (hM : mok G M r_Mo_signOf Q K) (v0 : Nat) (v1 : Int32) (v2 : Int64) (v4 : Int32) (v5 : Int64) (v7 : Int32) (h : Hp) (F : kT h v0 = 12 ∧ kR h v0 4 = some (rf h v0 4) ∧ (kT h (rf h v0 4) = 50 ∧ vp_in v4 (kN h (rf h v0 4)) ∧ (((kI h (rf h v0 4) (Int32.toNatClampNeg v4)) ≤ v7 → X G M Q 13 [(0, .ref v0), (1, .int v1), (2, .long ((((v2 * 31) + v5) * 1000003) ^^^ ((Int64.toUInt64 (((v2 * 31) + v5) * 1000003) >>> ((Int32.toInt64 29).toUInt64 &&& Int64.toUInt64 63)).toInt64))), (4, .int (v4 + 1))] [] h) ∧ (¬ (kI h (rf h v0 4) (Int32.toNatClampNeg v4)) ≤ v7 → (kT h v0 = 12 ∧ kR h v0 14 = some (rf h v0 14) ∧ (kT h (rf h v0 14) = 50 ∧ vp_in (((36 * v1) + (3 * v4)) + v7) (kN h (rf h v0 14)) ∧ X G M Q 65 [(0, .ref v0), (1, .int v1), (2, .long v2), (4, .int v4), (5, .long v5), (7, .int v7), (8, .int (kI h (rf h v0 14) (Int32.toNatClampNeg (((36 * v1) + (3 * v4)) + v7)))), (9, .int 0), (10, .int 0)] [] h)))))) : X G M Q 28 [(0, .ref v0), (1, .int v1), (2, .long v2), (4, .int v4), (5, .long v5), (7, .int v7)] [] h := by
  refine x_iload hM d_Mo_signOf_28 5 rfl ?_
  refine x_aload_n hM d_Mo_signOf_30 rfl 0 rfl ?_
  obtain ⟨c8, F⟩ := F
  obtain ⟨c9, F⟩ := F
  refine x_getr hG hM ck_Mo 4 (Nat.le_of_ble_eq_true rfl) rfl rfl w_901 rfl d_Mo_signOf_31 c8 c9 ?_
  refine x_iload hM d_Mo_signOf_34 3 rfl ?_
  obtain ⟨c6, F⟩ := F
  obtain ⟨c7, F⟩ := F
  refine x_iaload hG hM d_Mo_signOf_36 c6 c7 ?_
  refine x_icmp_ge (tgt := 170) hM d_Mo_signOf_37 (by decide) (fun q5 => ?_) (fun q5 => ?_)
  · replace F := F.1 q5
    refine x_lload_n hM d_Mo_signOf_170 rfl 2 rfl ?_
    refine x_ldc2 hG hM rfl w_1150 d_Mo_signOf_171 ?_
    refine x_lmul hM d_Mo_signOf_174 ?_
    refine x_lload hM d_Mo_signOf_175 4 rfl ?_
    refine x_ladd hM d_Mo_signOf_177 ?_
    refine x_ldc2 hG hM rfl w_1151 d_Mo_signOf_178 ?_
    refine x_lmul hM d_Mo_signOf_181 ?_
    refine x_lstore_n (lv2 := [(2, .long (((v2 * 31) + v5) * 1000003)), (0, .ref v0), (1, .int v1), (4, .int v4), (5, .long v5), (7, .int v7)]) hM d_Mo_signOf_182 rfl (Nat.le_of_ble_eq_true rfl) rfl ?_
    refine x_lload_n hM d_Mo_signOf_183 rfl 0 rfl ?_
    refine x_lload_n hM d_Mo_signOf_184 rfl 0 rfl ?_
    refine x_bipush (v := 29) hM d_Mo_signOf_185 (by decide) ?_
    refine x_lushr hM d_Mo_signOf_187 ?_
    refine x_lxor hM d_Mo_signOf_188 ?_
    refine x_lstore_n (lv2 := [(2, .long ((((v2 * 31) + v5) * 1000003) ^^^ ((Int64.toUInt64 (((v2 * 31) + v5) * 1000003) >>> ((Int32.toInt64 29).toUInt64 &&& Int64.toUInt64 63)).toInt64))), (0, .ref v0), (1, .int v1), (4, .int v4), (5, .long v5), (7, .int v7)]) hM d_Mo_signOf_189 rfl (Nat.le_of_ble_eq_true rfl) rfl ?_
    refine x_iinc (v := (v4 + 1)) (lv2 := [(4, .int (v4 + 1)), (2, .long ((((v2 * 31) + v5) * 1000003) ^^^ ((Int64.toUInt64 (((v2 * 31) + v5) * 1000003) >>> ((Int32.toInt64 29).toUInt64 &&& Int64.toUInt64 63)).toInt64))), (0, .ref v0), (1, .int v1), (5, .long v5), (7, .int v7)]) hM d_Mo_signOf_190 (j := 3) rfl rfl (Nat.le_of_ble_eq_true rfl) rfl ?_
    refine x_goto (tgt := 13) hM d_Mo_signOf_193 (by decide) ?_
    refine x_sub [2, 3, 1, 0] rfl ?_
    exact F
  · replace F := F.2 q5
    refine x_aload_n hM d_Mo_signOf_40 rfl 0 rfl ?_
    obtain ⟨c3, F⟩ := F
    obtain ⟨c4, F⟩ := F
    refine x_getr hG hM ck_Mo 14 (Nat.le_of_ble_eq_true rfl) rfl rfl w_911 rfl d_Mo_signOf_41 c3 c4 ?_
    refine x_bipush (v := 36) hM d_Mo_signOf_44 (by decide) ?_
    refine x_iload_n hM d_Mo_signOf_46 rfl 1 rfl ?_
    refine x_imul hM d_Mo_signOf_47 ?_
    refine x_iconst (v := 3) hM d_Mo_signOf_48 (by decide) ?_
    refine x_iload hM d_Mo_signOf_49 3 rfl ?_
    refine x_imul hM d_Mo_signOf_51 ?_
    refine x_iadd hM d_Mo_signOf_52 ?_
    refine x_iload hM d_Mo_signOf_53 5 rfl ?_
    refine x_iadd hM d_Mo_signOf_55 ?_
    obtain ⟨c1, F⟩ := F
    obtain ⟨c2, F⟩ := F
    refine x_iaload hG hM d_Mo_signOf_56 c1 c2 ?_
    refine x_istore (lv2 := [(8, .int (kI h (rf h v0 14) (Int32.toNatClampNeg (((36 * v1) + (3 * v4)) + v7)))), (0, .ref v0), (1, .int v1), (2, .long v2), (4, .int v4), (5, .long v5), (7, .int v7)]) hM d_Mo_signOf_57 (Nat.le_of_ble_eq_true rfl) rfl ?_
    refine x_iconst (v := 0) hM d_Mo_signOf_59 (by decide) ?_
    refine x_istore (lv2 := [(9, .int 0), (8, .int (kI h (rf h v0 14) (Int32.toNatClampNeg (((36 * v1) + (3 * v4)) + v7)))), (0, .ref v0), (1, .int v1), (2, .long v2), (4, .int v4), (5, .long v5), (7, .int v7)]) hM d_Mo_signOf_60 (Nat.le_of_ble_eq_true rfl) rfl ?_
    refine x_iconst (v := 0) hM d_Mo_signOf_62 (by decide) ?_
    refine x_istore (lv2 := [(10, .int 0), (9, .int 0), (8, .int (kI h (rf h v0 14) (Int32.toNatClampNeg (((36 * v1) + (3 * v4)) + v7)))), (0, .ref v0), (1, .int v1), (2, .long v2), (4, .int v4), (5, .long v5), (7, .int v7)]) hM d_Mo_signOf_63 (Nat.le_of_ble_eq_true rfl) rfl ?_
    refine x_sub [3, 4, 5, 6, 7, 8, 2, 1, 0] rfl ?_
    exact F
set_option maxRecDepth 100000 in
set_option maxHeartbeats 4000000 in
theorem S_Mo_signOf_65 {G : Gc} {M : Mc} {Q : State → Prop} {K : Option Value → Hp → Prop} (hG : gok G) (hM : mok G M r_Mo_signOf Q K) (v0 : Nat) (v1 : Int32) (v2 : Int64) (v4 : Int32) (v5 : Int64) (v7 : Int32) (v8 : Int32) (v9 : Int32) (v10 : Int32) (h : Hp) (F : (v7 ≤ v10 → X G M Q 128 [(0, .ref v0), (1, .int v1), (2, .long v2), (4, .int v4), (5, .long v5), (7, .int v7), (8, .int v8), (9, .int v9)] [] h) ∧ (¬ v7 ≤ v10 → ((v8 = (-1) → X G M Q 128 [(0, .ref v0), (1, .int v1), (2, .long v2), (4, .int v4), (5, .long v5), (7, .int v7), (8, .int v8), (9, .int v9)] [] h) ∧ (¬ v8 = (-1) → ((v9 = 0 → (kT h v0 = 12 ∧ kR h v0 27 = some (rf h v0 27) ∧ kT h v0 = 12 ∧ kR h v0 14 = some (rf h v0 14) ∧ kT h (rf h v0 14) = 50 ∧ vp_in (((36 * v1) + (3 * v4)) + v10) (kN h (rf h v0 14)) ∧ kT h (rf h v0 27) = 50 ∧ vp_in (kI h (rf h v0 14) (Int32.toNatClampNeg (((36 * v1) + (3 * v4)) + v10))) (kN h (rf h v0 27)) ∧ kT h v0 = 12 ∧ kR h v0 27 = some (rf h v0 27) ∧ kT h (rf h v0 27) = 50 ∧ vp_in v8 (kN h (rf h v0 27)))) ∧ (∀ z1 : Int32, z1 = (if v9 = 0 then (if (kI h (rf h v0 27) (Int32.toNatClampNeg (kI h (rf h v0 14) (Int32.toNatClampNeg (((36 * v1) + (3 * v4)) + v10))))) = (kI h (rf h v0 27) (Int32.toNatClampNeg v8)) then 1 else 0) else 1) → X G M Q 65 [(0, .ref v0), (1, .int v1), (2, .long v2), (4, .int v4), (5, .long v5), (7, .int v7), (8, .int v8), (9, .int z1), (10, .int (v10 + 1))] [] h)))))) : X G M Q 65 [(0, .ref v0), (1, .int v1), (2, .long v2), (4, .int v4), (5, .long v5), (7, .int v7), (8, .int v8), (9, .int v9), (10, .int v10)] [] h := by
  refine x_iload hM d_Mo_signOf_65 8 rfl ?_
  refine x_iload hM d_Mo_signOf_67 5 rfl ?_
  refine x_icmp_ge (tgt := 128) hM d_Mo_signOf_69 (by decide) (fun q17 => ?_) (fun q17 => ?_)
  · replace F := F.1 q17
    refine x_sub [0, 1, 2, 3, 4, 5, 6, 7] rfl ?_
    exact F
  · replace F := F.2 q17
    refine x_iload hM d_Mo_signOf_72 6 rfl ?_
    refine x_iconst (v := (-1)) hM d_Mo_signOf_74 (by decide) ?_
    refine x_icmp_eq (tgt := 128) hM d_Mo_signOf_75 (by decide) (fun q16 => ?_) (fun q16 => ?_)
    · replace F := F.1 q16
      refine x_sub [0, 1, 2, 3, 4, 5, 6, 7] rfl ?_
      exact F
    · replace F := F.2 q16
      refine x_iload hM d_Mo_signOf_78 7 rfl ?_
      obtain ⟨S, F⟩ := F
      have JJ : ∀ (z1 : Int32) (ez1 : z1 = (if v9 = 0 then (if (kI h (rf h v0 27) (Int32.toNatClampNeg (kI h (rf h v0 14) (Int32.toNatClampNeg (((36 * v1) + (3 * v4)) + v10))))) = (kI h (rf h v0 27) (Int32.toNatClampNeg v8)) then 1 else 0) else 1)), X G M Q 120 [(0, .ref v0), (1, .int v1), (2, .long v2), (4, .int v4), (5, .long v5), (7, .int v7), (8, .int v8), (10, .int v10)] [.int z1] h := by
        intro z1 ez1
        replace F := F _ ez1
        refine x_istore (lv2 := [(9, .int z1), (0, .ref v0), (1, .int v1), (2, .long v2), (4, .int v4), (5, .long v5), (7, .int v7), (8, .int v8), (10, .int v10)]) hM d_Mo_signOf_120 (Nat.le_of_ble_eq_true rfl) rfl ?_
        refine x_iinc (v := (v10 + 1)) (lv2 := [(10, .int (v10 + 1)), (9, .int z1), (0, .ref v0), (1, .int v1), (2, .long v2), (4, .int v4), (5, .long v5), (7, .int v7), (8, .int v8)]) hM d_Mo_signOf_122 (j := 8) rfl rfl (Nat.le_of_ble_eq_true rfl) rfl ?_
        refine x_goto (tgt := 65) hM d_Mo_signOf_125 (by decide) ?_
        refine x_sub [2, 3, 4, 5, 6, 7, 8, 1, 0] rfl ?_
        exact F
      refine x_if_ne (tgt := 115) hM d_Mo_signOf_80 (by decide) (fun q2 => ?_) (fun q2 => ?_)
      · refine x_iconst (v := 1) hM d_Mo_signOf_115 (by decide) ?_
        refine x_goto (tgt := 120) hM d_Mo_signOf_116 (by decide) ?_
        refine x_sub [0, 1, 2, 3, 4, 5, 6, 8] rfl ?_
        exact JJ _ (Eq.symm (if_neg q2))
      · replace S := S q2
        refine x_aload_n hM d_Mo_signOf_83 rfl 0 rfl ?_
        obtain ⟨c3, S⟩ := S
        obtain ⟨c4, S⟩ := S
        refine x_getr hG hM ck_Mo 27 (Nat.le_of_ble_eq_true rfl) rfl rfl w_924 rfl d_Mo_signOf_84 c3 c4 ?_
        refine x_aload_n hM d_Mo_signOf_87 rfl 0 rfl ?_
        obtain ⟨c5, S⟩ := S
        obtain ⟨c6, S⟩ := S
        refine x_getr hG hM ck_Mo 14 (Nat.le_of_ble_eq_true rfl) rfl rfl w_911 rfl d_Mo_signOf_88 c5 c6 ?_
        refine x_bipush (v := 36) hM d_Mo_signOf_91 (by decide) ?_
        refine x_iload_n hM d_Mo_signOf_93 rfl 1 rfl ?_
        refine x_imul hM d_Mo_signOf_94 ?_
        refine x_iconst (v := 3) hM d_Mo_signOf_95 (by decide) ?_
        refine x_iload hM d_Mo_signOf_96 3 rfl ?_
        refine x_imul hM d_Mo_signOf_98 ?_
        refine x_iadd hM d_Mo_signOf_99 ?_
        refine x_iload hM d_Mo_signOf_100 8 rfl ?_
        refine x_iadd hM d_Mo_signOf_102 ?_
        obtain ⟨c7, S⟩ := S
        obtain ⟨c8, S⟩ := S
        refine x_iaload hG hM d_Mo_signOf_103 c7 c8 ?_
        obtain ⟨c9, S⟩ := S
        obtain ⟨c10, S⟩ := S
        refine x_iaload hG hM d_Mo_signOf_104 c9 c10 ?_
        refine x_aload_n hM d_Mo_signOf_105 rfl 0 rfl ?_
        obtain ⟨c11, S⟩ := S
        obtain ⟨c12, S⟩ := S
        refine x_getr hG hM ck_Mo 27 (Nat.le_of_ble_eq_true rfl) rfl rfl w_924 rfl d_Mo_signOf_106 c11 c12 ?_
        refine x_iload hM d_Mo_signOf_109 6 rfl ?_
        obtain ⟨c13, S⟩ := S
        have c14 := S
        refine x_iaload hG hM d_Mo_signOf_111 c13 c14 ?_
        refine x_icmp_ne (tgt := 119) hM d_Mo_signOf_112 (by decide) (fun q15 => ?_) (fun q15 => ?_)
        · refine x_iconst (v := 0) hM d_Mo_signOf_119 (by decide) ?_
          refine x_sub [0, 1, 2, 3, 4, 5, 6, 8] rfl ?_
          exact JJ _ (Eq.symm (Eq.trans (if_pos q2) (if_neg q15)))
        · refine x_iconst (v := 1) hM d_Mo_signOf_115 (by decide) ?_
          refine x_goto (tgt := 120) hM d_Mo_signOf_116 (by decide) ?_
          refine x_sub [0, 1, 2, 3, 4, 5, 6, 8] rfl ?_
          exact JJ _ (Eq.symm (Eq.trans (if_pos q2) (if_pos q15)))
set_option maxRecDepth 100000 in
set_option maxHeartbeats 4000000 in
theorem S_Mo_signOf_128 {G : Gc} {M : Mc} {Q : State → Prop} {K : Option Value → Hp → Prop} (hG : gok G) (hM : mok G M r_Mo_signOf Q K) (v0 : Nat) (v1 : Int32) (v2 : Int64) (v4 : Int32) (v5 : Int64) (v7 : Int32) (v8 : Int32) (v9 : Int32) (h : Hp) (F : (¬ v8 = (-1) → (v9 = 0 → (kT h v0 = 12 ∧ kR h v0 27 = some (rf h v0 27) ∧ kT h (rf h v0 27) = 50 ∧ vp_in v8 (kN h (rf h v0 27))))) ∧ (∀ z1 : Int64, z1 = (if v8 = (-1) then 0 else (if v9 = 0 then (((Int32.toInt64 (kI h (rf h v0 27) (Int32.toNatClampNeg v8))) + 3) * 1099511628211) else 0)) → X G M Q 28 [(0, .ref v0), (1, .int v1), (2, .long v2), (4, .int v4), (5, .long (v5 + z1)), (7, .int (v7 + 1))] [] h)) : X G M Q 128 [(0, .ref v0), (1, .int v1), (2, .long v2), (4, .int v4), (5, .long v5), (7, .int v7), (8, .int v8), (9, .int v9)] [] h := by
  refine x_lload hM d_Mo_signOf_128 4 rfl ?_
  refine x_iload hM d_Mo_signOf_130 6 rfl ?_
  refine x_iconst (v := (-1)) hM d_Mo_signOf_132 (by decide) ?_
  obtain ⟨S, F⟩ := F
  have JJ : ∀ (z1 : Int64) (ez1 : z1 = (if v8 = (-1) then 0 else (if v9 = 0 then (((Int32.toInt64 (kI h (rf h v0 27) (Int32.toNatClampNeg v8))) + 3) * 1099511628211) else 0))), X G M Q 161 [(0, .ref v0), (1, .int v1), (2, .long v2), (4, .int v4), (7, .int v7)] [.long z1, .long v5] h := by
    intro z1 ez1
    replace F := F _ ez1
    refine x_ladd hM d_Mo_signOf_161 ?_
    refine x_lstore (lv2 := [(5, .long (v5 + z1)), (0, .ref v0), (1, .int v1), (2, .long v2), (4, .int v4), (7, .int v7)]) hM d_Mo_signOf_162 (Nat.le_of_ble_eq_true rfl) rfl ?_
    refine x_iinc (v := (v7 + 1)) (lv2 := [(7, .int (v7 + 1)), (5, .long (v5 + z1)), (0, .ref v0), (1, .int v1), (2, .long v2), (4, .int v4)]) hM d_Mo_signOf_164 (j := 5) rfl rfl (Nat.le_of_ble_eq_true rfl) rfl ?_
    refine x_goto (tgt := 28) hM d_Mo_signOf_167 (by decide) ?_
    refine x_sub [2, 3, 4, 5, 1, 0] rfl ?_
    exact F
  refine x_icmp_eq (tgt := 141) hM d_Mo_signOf_133 (by decide) (fun q2 => ?_) (fun q2 => ?_)
  · refine x_lconst (v := 0) hM d_Mo_signOf_141 (by decide) ?_
    refine x_goto (tgt := 161) hM d_Mo_signOf_142 (by decide) ?_
    refine x_sub [0, 1, 2, 3, 5] rfl ?_
    exact JJ _ (Eq.symm (if_pos q2))
  · replace S := S q2
    refine x_iload hM d_Mo_signOf_136 7 rfl ?_
    refine x_if_eq (tgt := 145) hM d_Mo_signOf_138 (by decide) (fun q3 => ?_) (fun q3 => ?_)
    · replace S := S q3
      refine x_aload_n hM d_Mo_signOf_145 rfl 0 rfl ?_
      obtain ⟨c4, S⟩ := S
      obtain ⟨c5, S⟩ := S
      refine x_getr hG hM ck_Mo 27 (Nat.le_of_ble_eq_true rfl) rfl rfl w_924 rfl d_Mo_signOf_146 c4 c5 ?_
      refine x_iload hM d_Mo_signOf_149 6 rfl ?_
      obtain ⟨c6, S⟩ := S
      have c7 := S
      refine x_iaload hG hM d_Mo_signOf_151 c6 c7 ?_
      refine x_i2l hM d_Mo_signOf_152 ?_
      refine x_ldc2 hG hM rfl w_1148 d_Mo_signOf_153 ?_
      refine x_ladd hM d_Mo_signOf_156 ?_
      refine x_ldc2 hG hM rfl w_1149 d_Mo_signOf_157 ?_
      refine x_lmul hM d_Mo_signOf_160 ?_
      refine x_sub [0, 1, 2, 3, 5] rfl ?_
      exact JJ _ (Eq.symm (Eq.trans (if_neg q2) (if_pos q3)))
    · refine x_lconst (v := 0) hM d_Mo_signOf_141 (by decide) ?_
      refine x_goto (tgt := 161) hM d_Mo_signOf_142 (by decide) ?_
      refine x_sub [0, 1, 2, 3, 5] rfl ?_
      exact JJ _ (Eq.symm (Eq.trans (if_neg q2) (if_neg q3)))
theorem d_Mo_areAlike_0 : decode b_Mo_areAlike 0 = .ok (.aload_n 0, 1) := by decide +kernel
theorem d_Mo_areAlike_1 : decode b_Mo_areAlike 1 = .ok (.getfield 73, 3) := by decide +kernel
theorem d_Mo_areAlike_4 : decode b_Mo_areAlike 4 = .ok (.iload_n 1, 1) := by decide +kernel
theorem d_Mo_areAlike_5 : decode b_Mo_areAlike 5 = .ok (.iaload, 1) := by decide +kernel
theorem d_Mo_areAlike_6 : decode b_Mo_areAlike 6 = .ok (.aload_n 0, 1) := by decide +kernel
theorem d_Mo_areAlike_7 : decode b_Mo_areAlike 7 = .ok (.getfield 73, 3) := by decide +kernel
theorem d_Mo_areAlike_10 : decode b_Mo_areAlike 10 = .ok (.iload_n 2, 1) := by decide +kernel
theorem d_Mo_areAlike_11 : decode b_Mo_areAlike 11 = .ok (.iaload, 1) := by decide +kernel
theorem d_Mo_areAlike_12 : decode b_Mo_areAlike 12 = .ok (.if_icmp .ne 7, 3) := by decide +kernel
theorem d_Mo_areAlike_15 : decode b_Mo_areAlike 15 = .ok (.iconst 1, 1) := by decide +kernel
theorem d_Mo_areAlike_16 : decode b_Mo_areAlike 16 = .ok (.goto 4, 3) := by decide +kernel
theorem d_Mo_areAlike_19 : decode b_Mo_areAlike 19 = .ok (.iconst 0, 1) := by decide +kernel
theorem d_Mo_areAlike_20 : decode b_Mo_areAlike 20 = .ok (.istore_n 3, 1) := by decide +kernel
theorem d_Mo_areAlike_21 : decode b_Mo_areAlike 21 = .ok (.iconst 0, 1) := by decide +kernel
theorem d_Mo_areAlike_22 : decode b_Mo_areAlike 22 = .ok (.istore 4, 2) := by decide +kernel
theorem d_Mo_areAlike_24 : decode b_Mo_areAlike 24 = .ok (.iload 4, 2) := by decide +kernel
theorem d_Mo_areAlike_26 : decode b_Mo_areAlike 26 = .ok (.aload_n 0, 1) := by decide +kernel
theorem d_Mo_areAlike_27 : decode b_Mo_areAlike 27 = .ok (.getfield 112, 3) := by decide +kernel
theorem d_Mo_areAlike_30 : decode b_Mo_areAlike 30 = .ok (.if_icmp .ge 22, 3) := by decide +kernel
theorem d_Mo_areAlike_33 : decode b_Mo_areAlike 33 = .ok (.iload_n 3, 1) := by decide +kernel
theorem d_Mo_areAlike_34 : decode b_Mo_areAlike 34 = .ok (.ifCond .eq 18, 3) := by decide +kernel
theorem d_Mo_areAlike_37 : decode b_Mo_areAlike 37 = .ok (.aload_n 0, 1) := by decide +kernel
theorem d_Mo_areAlike_38 : decode b_Mo_areAlike 38 = .ok (.iload_n 1, 1) := by decide +kernel
theorem d_Mo_areAlike_39 : decode b_Mo_areAlike 39 = .ok (.iload_n 2, 1) := by decide +kernel
theorem d_Mo_areAlike_40 : decode b_Mo_areAlike 40 = .ok (.iload 4, 2) := by decide +kernel
theorem d_Mo_areAlike_42 : decode b_Mo_areAlike 42 = .ok (.invokevirtual 180, 3) := by decide +kernel
theorem d_Mo_areAlike_45 : decode b_Mo_areAlike 45 = .ok (.istore_n 3, 1) := by decide +kernel
theorem d_Mo_areAlike_46 : decode b_Mo_areAlike 46 = .ok (.iinc 4 1, 3) := by decide +kernel
theorem d_Mo_areAlike_49 : decode b_Mo_areAlike 49 = .ok (.goto (-25), 3) := by decide +kernel
theorem d_Mo_areAlike_52 : decode b_Mo_areAlike 52 = .ok (.iload_n 3, 1) := by decide +kernel
theorem d_Mo_areAlike_53 : decode b_Mo_areAlike 53 = .ok (.ireturn, 1) := by decide +kernel
set_option maxRecDepth 100000 in
set_option maxHeartbeats 4000000 in
theorem S_Mo_areAlike_0 {G : Gc} {M : Mc} {Q : State → Prop} {K : Option Value → Hp → Prop} (hG : gok G) (hM : mok G M r_Mo_areAlike Q K) (v0 : Nat) (v1 : Int32) (v2 : Int32) (h : Hp) (F : kT h v0 = 12 ∧ kR h v0 27 = some (rf h v0 27) ∧ (kT h (rf h v0 27) = 50 ∧ vp_in v1 (kN h (rf h v0 27)) ∧ (kT h v0 = 12 ∧ kR h v0 27 = some (rf h v0 27) ∧ (kT h (rf h v0 27) = 50 ∧ vp_in v2 (kN h (rf h v0 27)) ∧ (∀ z1 : Int32, z1 = (if (kI h (rf h v0 27) (Int32.toNatClampNeg v1)) = (kI h (rf h v0 27) (Int32.toNatClampNeg v2)) then 1 else 0) → X G M Q 24 [(0, .ref v0), (1, .int v1), (2, .int v2), (3, .int z1), (4, .int 0)] [] h))))) : X G M Q 0 [(0, .ref v0), (1, .int v1), (2, .int v2)] [] h := by
  refine x_aload_n hM d_Mo_areAlike_0 rfl 0 rfl ?_
  obtain ⟨c9, F⟩ := F
  obtain ⟨c10, F⟩ := F
  refine x_getr hG hM ck_Mo 27 (Nat.le_of_ble_eq_true rfl) rfl rfl w_924 rfl d_Mo_areAlike_1 c9 c10 ?_
  refine x_iload_n hM d_Mo_areAlike_4 rfl 1 rfl ?_
  obtain ⟨c7, F⟩ := F
  obtain ⟨c8, F⟩ := F
  refine x_iaload hG hM d_Mo_areAlike_5 c7 c8 ?_
  refine x_aload_n hM d_Mo_areAlike_6 rfl 0 rfl ?_
  obtain ⟨c5, F⟩ := F
  obtain ⟨c6, F⟩ := F
  refine x_getr hG hM ck_Mo 27 (Nat.le_of_ble_eq_true rfl) rfl rfl w_924 rfl d_Mo_areAlike_7 c5 c6 ?_
  refine x_iload_n hM d_Mo_areAlike_10 rfl 2 rfl ?_
  obtain ⟨c3, F⟩ := F
  obtain ⟨c4, F⟩ := F
  refine x_iaload hG hM d_Mo_areAlike_11 c3 c4 ?_
  have JJ : ∀ (z1 : Int32) (ez1 : z1 = (if (kI h (rf h v0 27) (Int32.toNatClampNeg v1)) = (kI h (rf h v0 27) (Int32.toNatClampNeg v2)) then 1 else 0)), X G M Q 20 [(0, .ref v0), (1, .int v1), (2, .int v2)] [.int z1] h := by
    intro z1 ez1
    replace F := F _ ez1
    refine x_istore_n (lv2 := [(3, .int z1), (0, .ref v0), (1, .int v1), (2, .int v2)]) hM d_Mo_areAlike_20 rfl (Nat.le_of_ble_eq_true rfl) rfl ?_
    refine x_iconst (v := 0) hM d_Mo_areAlike_21 (by decide) ?_
    refine x_istore (lv2 := [(4, .int 0), (3, .int z1), (0, .ref v0), (1, .int v1), (2, .int v2)]) hM d_Mo_areAlike_22 (Nat.le_of_ble_eq_true rfl) rfl ?_
    refine x_sub [2, 3, 4, 1, 0] rfl ?_
    exact F
  refine x_icmp_ne (tgt := 19) hM d_Mo_areAlike_12 (by decide) (fun q2 => ?_) (fun q2 => ?_)
  · refine x_iconst (v := 0) hM d_Mo_areAlike_19 (by decide) ?_
    exact JJ _ (Eq.symm (if_neg q2))
  · refine x_iconst (v := 1) hM d_Mo_areAlike_15 (by decide) ?_
    refine x_goto (tgt := 20) hM d_Mo_areAlike_16 (by decide) ?_
    exact JJ _ (Eq.symm (if_pos q2))
set_option maxRecDepth 100000 in
set_option maxHeartbeats 4000000 in
theorem S_Mo_areAlike_24 {G : Gc} {M : Mc} {Q : State → Prop} {K : Option Value → Hp → Prop} (hG : gok G) (hM : mok G M r_Mo_areAlike Q K) (v0 : Nat) (v1 : Int32) (v2 : Int32) (v3 : Int32) (v4 : Int32) (h : Hp) (F : kT h v0 = 12 ∧ (((kI h v0 3) ≤ v4 → (nb v3 ∧ K (some (.int v3)) h)) ∧ (¬ (kI h v0 3) ≤ v4 → ((v3 = 0 → (nb v3 ∧ K (some (.int v3)) h)) ∧ (¬ v3 = 0 → (kT h v0 = 12 ∧ sem G r_Mo_isOneWay [.ref v0, .int v1, .int v2, .int v4] h (fun u2 h1 => ∃ x3 : Int32, u2 = some (.int x3) ∧ X G M Q 24 [(0, .ref v0), (1, .int v1), (2, .int v2), (3, .int x3), (4, .int (v4 + 1))] [] h1))))))) : X G M Q 24 [(0, .ref v0), (1, .int v1), (2, .int v2), (3, .int v3), (4, .int v4)] [] h := by
  refine x_iload hM d_Mo_areAlike_24 4 rfl ?_
  refine x_aload_n hM d_Mo_areAlike_26 rfl 0 rfl ?_
  obtain ⟨c7, F⟩ := F
  refine x_geti hG hM ck_Mo 3 (Nat.le_of_ble_eq_true rfl) rfl rfl w_900 rfl d_Mo_areAlike_27 c7 ?_
  refine x_icmp_ge (tgt := 52) hM d_Mo_areAlike_30 (by decide) (fun q6 => ?_) (fun q6 => ?_)
  · replace F := F.1 q6
    refine x_iload_n hM d_Mo_areAlike_52 rfl 3 rfl ?_
    exact x_zreturn hM d_Mo_areAlike_53 rfl F.1 F.2
  · replace F := F.2 q6
    refine x_iload_n hM d_Mo_areAlike_33 rfl 3 rfl ?_
    refine x_if_eq (tgt := 52) hM d_Mo_areAlike_34 (by decide) (fun q5 => ?_) (fun q5 => ?_)
    · replace F := F.1 q5
      refine x_iload_n hM d_Mo_areAlike_52 rfl 3 rfl ?_
      exact x_zreturn hM d_Mo_areAlike_53 rfl F.1 F.2
    · replace F := F.2 q5
      refine x_aload_n hM d_Mo_areAlike_37 rfl 0 rfl ?_
      refine x_iload_n hM d_Mo_areAlike_38 rfl 1 rfl ?_
      refine x_iload_n hM d_Mo_areAlike_39 rfl 2 rfl ?_
      refine x_iload hM d_Mo_areAlike_40 4 rfl ?_
      obtain ⟨c4, F⟩ := F
      refine x_callV hG hM (r' := r_Mo_isOneWay) (ci := 11) [.int v1, .int v2, .int v4] rfl rfl (Nat.le_of_ble_eq_true rfl) yk_Mo_isOneWay ⟨Nat.le_of_ble_eq_true rfl, Nat.le_of_ble_eq_true rfl⟩ w_1157 w_1159 ws_Mo_isOneWay rfl rfl (Nat.le_of_ble_eq_true rfl) d_Mo_areAlike_42 c4 (sem_mono F ?_)
      intro u2 h1 F
      obtain ⟨x3, rfl, F⟩ := F
      refine x_istore_n (lv2 := [(3, .int x3), (0, .ref v0), (1, .int v1), (2, .int v2), (4, .int v4)]) hM d_Mo_areAlike_45 rfl (Nat.le_of_ble_eq_true rfl) rfl ?_
      refine x_iinc (v := (v4 + 1)) (lv2 := [(4, .int (v4 + 1)), (3, .int x3), (0, .ref v0), (1, .int v1), (2, .int v2)]) hM d_Mo_areAlike_46 (j := 4) rfl rfl (Nat.le_of_ble_eq_true rfl) rfl ?_
      refine x_goto (tgt := 24) hM d_Mo_areAlike_49 (by decide) ?_
      refine x_sub [2, 3, 4, 1, 0] rfl ?_
      exact F
theorem d_Mo_isOneWay_0 : decode b_Mo_isOneWay 0 = .ok (.iconst 0, 1) := by decide +kernel
theorem d_Mo_isOneWay_1 : decode b_Mo_isOneWay 1 = .ok (.istore 4, 2) := by decide +kernel
theorem d_Mo_isOneWay_3 : decode b_Mo_isOneWay 3 = .ok (.iload 4, 2) := by decide +kernel
theorem d_Mo_isOneWay_5 : decode b_Mo_isOneWay 5 = .ok (.aload_n 0, 1) := by decide +kernel
theorem d_Mo_isOneWay_6 : decode b_Mo_isOneWay 6 = .ok (.getfield 13, 3) := by decide +kernel
theorem d_Mo_isOneWay_9 : decode b_Mo_isOneWay 9 = .ok (.iload_n 3, 1) := by decide +kernel
theorem d_Mo_isOneWay_10 : decode b_Mo_isOneWay 10 = .ok (.iaload, 1) := by decide +kernel
theorem d_Mo_isOneWay_11 : decode b_Mo_isOneWay 11 = .ok (.if_icmp .ge 194, 3) := by decide +kernel
theorem d_Mo_isOneWay_14 : decode b_Mo_isOneWay 14 = .ok (.aload_n 0, 1) := by decide +kernel
theorem d_Mo_isOneWay_15 : decode b_Mo_isOneWay 15 = .ok (.getfield 35, 3) := by decide +kernel
theorem d_Mo_isOneWay_18 : decode b_Mo_isOneWay 18 = .ok (.bipush 36, 2) := by decide +kernel
theorem d_Mo_isOneWay_20 : decode b_Mo_isOneWay 20 = .ok (.iload_n 1, 1) := by decide +kernel
theorem d_Mo_isOneWay_21 : decode b_Mo_isOneWay 21 = .ok (.imul, 1) := by decide +kernel
theorem d_Mo_isOneWay_22 : decode b_Mo_isOneWay 22 = .ok (.iconst 3, 1) := by decide +kernel
theorem d_Mo_isOneWay_23 : decode b_Mo_isOneWay 23 = .ok (.iload_n 3, 1) := by decide +kernel
theorem d_Mo_isOneWay_24 : decode b_Mo_isOneWay 24 = .ok (.imul, 1) := by decide +kernel
theorem d_Mo_isOneWay_25 : decode b_Mo_isOneWay 25 = .ok (.iadd, 1) := by decide +kernel
theorem d_Mo_isOneWay_26 : decode b_Mo_isOneWay 26 = .ok (.iload 4, 2) := by decide +kernel
theorem d_Mo_isOneWay_28 : decode b_Mo_isOneWay 28 = .ok (.iadd, 1) := by decide +kernel
theorem d_Mo_isOneWay_29 : decode b_Mo_isOneWay 29 = .ok (.iaload, 1) := by decide +kernel
theorem d_Mo_isOneWay_30 : decode b_Mo_isOneWay 30 = .ok (.istore 5, 2) := by decide +kernel
theorem d_Mo_isOneWay_32 : decode b_Mo_isOneWay 32 = .ok (.aload_n 0, 1) := by decide +kernel
theorem d_Mo_isOneWay_33 : decode b_Mo_isOneWay 33 = .ok (.getfield 35, 3) := by decide +kernel
theorem d_Mo_isOneWay_36 : decode b_Mo_isOneWay 36 = .ok (.bipush 36, 2) := by decide +kernel
theorem d_Mo_isOneWay_38 : decode b_Mo_isOneWay 38 = .ok (.iload_n 2, 1) := by decide +kernel
theorem d_Mo_isOneWay_39 : decode b_Mo_isOneWay 39 = .ok (.imul, 1) := by decide +kernel
theorem d_Mo_isOneWay_40 : decode b_Mo_isOneWay 40 = .ok (.iconst 3, 1) := by decide +kernel
theorem d_Mo_isOneWay_41 : decode b_Mo_isOneWay 41 = .ok (.iload_n 3, 1) := by decide +kernel
theorem d_Mo_isOneWay_42 : decode b_Mo_isOneWay 42 = .ok (.imul, 1) := by decide +kernel
theorem d_Mo_isOneWay_43 : decode b_Mo_isOneWay 43 = .ok (.iadd, 1) := by decide +kernel
theorem d_Mo_isOneWay_44 : decode b_Mo_isOneWay 44 = .ok (.iload 4, 2) := by decide +kernel
theorem d_Mo_isOneWay_46 : decode b_Mo_isOneWay 46 = .ok (.iadd, 1) := by decide +kernel
theorem d_Mo_isOneWay_47 : decode b_Mo_isOneWay 47 = .ok (.iaload, 1) := by decide +kernel
theorem d_Mo_isOneWay_48 : decode b_Mo_isOneWay 48 = .ok (.istore 6, 2) := by decide +kernel
theorem d_Mo_isOneWay_50 : decode b_Mo_isOneWay 50 = .ok (.iload 5, 2) := by decide +kernel
theorem d_Mo_isOneWay_52 : decode b_Mo_isOneWay 52 = .ok (.iconst (-1), 1) := by decide +kernel
theorem d_Mo_isOneWay_53 : decode b_Mo_isOneWay 53 = .ok (.if_icmp .eq 9, 3) := by decide +kernel
theorem d_Mo_isOneWay_56 : decode b_Mo_isOneWay 56 = .ok (.iload 6, 2) := by decide +kernel
theorem d_Mo_isOneWay_58 : decode b_Mo_isOneWay 58 = .ok (.iconst (-1), 1) := by decide +kernel
theorem d_Mo_isOneWay_59 : decode b_Mo_isOneWay 59 = .ok (.if_icmp .ne 16, 3) := by decide +kernel
theorem d_Mo_isOneWay_62 : decode b_Mo_isOneWay 62 = .ok (.iload 5, 2) := by decide +kernel
theorem d_Mo_isOneWay_64 : decode b_Mo_isOneWay 64 = .ok (.iload 6, 2) := by decide +kernel
theorem d_Mo_isOneWay_66 : decode b_Mo_isOneWay 66 = .ok (.if_icmp .ne 7, 3) := by decide +kernel
theorem d_Mo_isOneWay_69 : decode b_Mo_isOneWay 69 = .ok (.iconst 1, 1) := by decide +kernel
theorem d_Mo_isOneWay_70 : decode b_Mo_isOneWay 70 = .ok (.goto 4, 3) := by decide +kernel
theorem d_Mo_isOneWay_73 : decode b_Mo_isOneWay 73 = .ok (.iconst 0, 1) := by decide +kernel
theorem d_Mo_isOneWay_74 : decode b_Mo_isOneWay 74 = .ok (.ireturn, 1) := by decide +kernel
theorem d_Mo_isOneWay_75 : decode b_Mo_isOneWay 75 = .ok (.iconst 0, 1) := by decide +kernel
theorem d_Mo_isOneWay_76 : decode b_Mo_isOneWay 76 = .ok (.istore 7, 2) := by decide +kernel
theorem d_Mo_isOneWay_78 : decode b_Mo_isOneWay 78 = .ok (.iconst 0, 1) := by decide +kernel
theorem d_Mo_isOneWay_79 : decode b_Mo_isOneWay 79 = .ok (.istore 8, 2) := by decide +kernel
theorem d_Mo_isOneWay_81 : decode b_Mo_isOneWay 81 = .ok (.iconst 0, 1) := by decide +kernel
theorem d_Mo_isOneWay_82 : decode b_Mo_isOneWay 82 = .ok (.istore 9, 2) := by decide +kernel
theorem d_Mo_isOneWay_84 : decode b_Mo_isOneWay 84 = .ok (.iload 9, 2) := by decide +kernel
theorem d_Mo_isOneWay_86 : decode b_Mo_isOneWay 86 = .ok (.aload_n 0, 1) := by decide +kernel
theorem d_Mo_isOneWay_87 : decode b_Mo_isOneWay 87 = .ok (.getfield 13, 3) := by decide +kernel
theorem d_Mo_isOneWay_90 : decode b_Mo_isOneWay 90 = .ok (.iload_n 3, 1) := by decide +kernel
theorem d_Mo_isOneWay_91 : decode b_Mo_isOneWay 91 = .ok (.iaload, 1) := by decide +kernel
theorem d_Mo_isOneWay_92 : decode b_Mo_isOneWay 92 = .ok (.if_icmp .ge 95, 3) := by decide +kernel
theorem d_Mo_isOneWay_95 : decode b_Mo_isOneWay 95 = .ok (.iload 7, 2) := by decide +kernel
theorem d_Mo_isOneWay_97 : decode b_Mo_isOneWay 97 = .ok (.ifCond .ne 34, 3) := by decide +kernel
theorem d_Mo_isOneWay_100 : decode b_Mo_isOneWay 100 = .ok (.aload_n 0, 1) := by decide +kernel
theorem d_Mo_isOneWay_101 : decode b_Mo_isOneWay 101 = .ok (.getfield 73, 3) := by decide +kernel
theorem d_Mo_isOneWay_104 : decode b_Mo_isOneWay 104 = .ok (.iload 5, 2) := by decide +kernel
theorem d_Mo_isOneWay_106 : decode b_Mo_isOneWay 106 = .ok (.iaload, 1) := by decide +kernel
theorem d_Mo_isOneWay_107 : decode b_Mo_isOneWay 107 = .ok (.aload_n 0, 1) := by decide +kernel
theorem d_Mo_isOneWay_108 : decode b_Mo_isOneWay 108 = .ok (.getfield 73, 3) := by decide +kernel
theorem d_Mo_isOneWay_111 : decode b_Mo_isOneWay 111 = .ok (.aload_n 0, 1) := by decide +kernel
theorem d_Mo_isOneWay_112 : decode b_Mo_isOneWay 112 = .ok (.getfield 35, 3) := by decide +kernel
theorem d_Mo_isOneWay_115 : decode b_Mo_isOneWay 115 = .ok (.bipush 36, 2) := by decide +kernel
theorem d_Mo_isOneWay_117 : decode b_Mo_isOneWay 117 = .ok (.iload_n 2, 1) := by decide +kernel
theorem d_Mo_isOneWay_118 : decode b_Mo_isOneWay 118 = .ok (.imul, 1) := by decide +kernel
theorem d_Mo_isOneWay_119 : decode b_Mo_isOneWay 119 = .ok (.iconst 3, 1) := by decide +kernel
theorem d_Mo_isOneWay_120 : decode b_Mo_isOneWay 120 = .ok (.iload_n 3, 1) := by decide +kernel
theorem d_Mo_isOneWay_121 : decode b_Mo_isOneWay 121 = .ok (.imul, 1) := by decide +kernel
theorem d_Mo_isOneWay_122 : decode b_Mo_isOneWay 122 = .ok (.iadd, 1) := by decide +kernel
theorem d_Mo_isOneWay_123 : decode b_Mo_isOneWay 123 = .ok (.iload 9, 2) := by decide +kernel
theorem d_Mo_isOneWay_125 : decode b_Mo_isOneWay 125 = .ok (.iadd, 1) := by decide +kernel
theorem d_Mo_isOneWay_126 : decode b_Mo_isOneWay 126 = .ok (.iaload, 1) := by decide +kernel
theorem d_Mo_isOneWay_127 : decode b_Mo_isOneWay 127 = .ok (.iaload, 1) := by decide +kernel
theorem d_Mo_isOneWay_128 : decode b_Mo_isOneWay 128 = .ok (.if_icmp .ne 7, 3) := by decide +kernel
theorem d_Mo_isOneWay_131 : decode b_Mo_isOneWay 131 = .ok (.iconst 1, 1) := by decide +kernel
theorem d_Mo_isOneWay_132 : decode b_Mo_isOneWay 132 = .ok (.goto 4, 3) := by decide +kernel
theorem d_Mo_isOneWay_135 : decode b_Mo_isOneWay 135 = .ok (.iconst 0, 1) := by decide +kernel
theorem d_Mo_isOneWay_136 : decode b_Mo_isOneWay 136 = .ok (.istore 7, 2) := by decide +kernel
theorem d_Mo_isOneWay_138 : decode b_Mo_isOneWay 138 = .ok (.iload 8, 2) := by decide +kernel
theorem d_Mo_isOneWay_140 : decode b_Mo_isOneWay 140 = .ok (.ifCond .ne 34, 3) := by decide +kernel
theorem d_Mo_isOneWay_143 : decode b_Mo_isOneWay 143 = .ok (.aload_n 0, 1) := by decide +kernel
theorem d_Mo_isOneWay_144 : decode b_Mo_isOneWay 144 = .ok (.getfield 73, 3) := by decide +kernel
theorem d_Mo_isOneWay_147 : decode b_Mo_isOneWay 147 = .ok (.iload 6, 2) := by decide +kernel
theorem d_Mo_isOneWay_149 : decode b_Mo_isOneWay 149 = .ok (.iaload, 1) := by decide +kernel
theorem d_Mo_isOneWay_150 : decode b_Mo_isOneWay 150 = .ok (.aload_n 0, 1) := by decide +kernel
theorem d_Mo_isOneWay_151 : decode b_Mo_isOneWay 151 = .ok (.getfield 73, 3) := by decide +kernel
theorem d_Mo_isOneWay_154 : decode b_Mo_isOneWay 154 = .ok (.aload_n 0, 1) := by decide +kernel
theorem d_Mo_isOneWay_155 : decode b_Mo_isOneWay 155 = .ok (.getfield 35, 3) := by decide +kernel
theorem d_Mo_isOneWay_158 : decode b_Mo_isOneWay 158 = .ok (.bipush 36, 2) := by decide +kernel
theorem d_Mo_isOneWay_160 : decode b_Mo_isOneWay 160 = .ok (.iload_n 1, 1) := by decide +kernel
theorem d_Mo_isOneWay_161 : decode b_Mo_isOneWay 161 = .ok (.imul, 1) := by decide +kernel
theorem d_Mo_isOneWay_162 : decode b_Mo_isOneWay 162 = .ok (.iconst 3, 1) := by decide +kernel
theorem d_Mo_isOneWay_163 : decode b_Mo_isOneWay 163 = .ok (.iload_n 3, 1) := by decide +kernel
theorem d_Mo_isOneWay_164 : decode b_Mo_isOneWay 164 = .ok (.imul, 1) := by decide +kernel
theorem d_Mo_isOneWay_165 : decode b_Mo_isOneWay 165 = .ok (.iadd, 1) := by decide +kernel
theorem d_Mo_isOneWay_166 : decode b_Mo_isOneWay 166 = .ok (.iload 9, 2) := by decide +kernel
theorem d_Mo_isOneWay_168 : decode b_Mo_isOneWay 168 = .ok (.iadd, 1) := by decide +kernel
theorem d_Mo_isOneWay_169 : decode b_Mo_isOneWay 169 = .ok (.iaload, 1) := by decide +kernel
theorem d_Mo_isOneWay_170 : decode b_Mo_isOneWay 170 = .ok (.iaload, 1) := by decide +kernel
theorem d_Mo_isOneWay_171 : decode b_Mo_isOneWay 171 = .ok (.if_icmp .ne 7, 3) := by decide +kernel
theorem d_Mo_isOneWay_174 : decode b_Mo_isOneWay 174 = .ok (.iconst 1, 1) := by decide +kernel
theorem d_Mo_isOneWay_175 : decode b_Mo_isOneWay 175 = .ok (.goto 4, 3) := by decide +kernel
theorem d_Mo_isOneWay_178 : decode b_Mo_isOneWay 178 = .ok (.iconst 0, 1) := by decide +kernel
theorem d_Mo_isOneWay_179 : decode b_Mo_isOneWay 179 = .ok (.istore 8, 2) := by decide +kernel
theorem d_Mo_isOneWay_181 : decode b_Mo_isOneWay 181 = .ok (.iinc 9 1, 3) := by decide +kernel
theorem d_Mo_isOneWay_184 : decode b_Mo_isOneWay 184 = .ok (.goto (-100), 3) := by decide +kernel
theorem d_Mo_isOneWay_187 : decode b_Mo_isOneWay 187 = .ok (.iload 7, 2) := by decide +kernel
theorem d_Mo_isOneWay_189 : decode b_Mo_isOneWay 189 = .ok (.ifCond .eq 8, 3) := by decide +kernel
theorem d_Mo_isOneWay_192 : decode b_Mo_isOneWay 192 = .ok (.iload 8, 2) := by decide +kernel
theorem d_Mo_isOneWay_194 : decode b_Mo_isOneWay 194 = .ok (.ifCond .ne 5, 3) := by decide +kernel
theorem d_Mo_isOneWay_197 : decode b_Mo_isOneWay 197 = .ok (.iconst 0, 1) := by decide +kernel
theorem d_Mo_isOneWay_198 : decode b_Mo_isOneWay 198 = .ok (.ireturn, 1) := by decide +kernel
theorem d_Mo_isOneWay_199 : decode b_Mo_isOneWay 199 = .ok (.iinc 4 1, 3) := by decide +kernel
theorem d_Mo_isOneWay_202 : decode b_Mo_isOneWay 202 = .ok (.goto (-199), 3) := by decide +kernel
theorem d_Mo_isOneWay_205 : decode b_Mo_isOneWay 205 = .ok (.iconst 1, 1) := by decide +kernel
theorem d_Mo_isOneWay_206 : decode b_Mo_isOneWay 206 = .ok (.ireturn, 1) := by decide +kernel
set_option maxRecDepth 100000 in
set_option maxHeartbeats 4000000 in
theorem S_Mo_isOneWay_0 {G : Gc} {M : Mc} {Q : State → Prop} {K : Option Value → Hp → Prop} (hG : gok G) (hM : mok G M r_Mo_isOneWay Q K) (v0 : Nat) (v1 : Int32) (v2 : Int32) (v3 : Int32) (h : Hp) (F : X G M Q 3 [(0, .ref v0), (1, .int v1), (2, .int v2), (3, .int v3), (4, .int 0)] [] h) : X G M Q 0 [(0, .ref v0), (1, .int v1), (2, .int v2), (3, .int v3)] [] h := by
  refine x_iconst (v := 0) hM d_Mo_isOneWay_0 (by decide) ?_
  refine x_istore (lv2 := [(4, .int 0), (0, .ref v0), (1, .int v1), (2, .int v2), (3, .int v3)]) hM d_Mo_isOneWay_1 (Nat.le_of_ble_eq_true rfl) rfl ?_
  refine x_sub [1, 2, 3, 4, 0] rfl ?_
  exact F
set_option maxRecDepth 100000 in
set_option maxHeartbeats 4000000 in
theorem S_Mo_isOneWay_3 {G : Gc} {M : Mc} {Q : State → Prop} {K : Option Value → Hp → Prop} (hG : gok G) (hM : mok G M r_Mo_isOneWay Q K) (v0 : Nat) (v1 : Int32) (v2 : Int32) (v3 : Int32) (v4 : Int32) (h : Hp) (F : kT h v0 = 12 ∧ kR h v0 4 = some (rf h v0 4) ∧ (kT h (rf h v0 4) = 50 ∧ vp_in v3 (kN h (rf h v0 4)) ∧ (((kI h (rf h v0 4) (Int32.toNatClampNeg v3)) ≤ v4 → K (some (.int 1)) h) ∧ (¬ (kI h (rf h v0 4) (Int32.toNatClampNeg v3)) ≤ v4 → (kT h v0 = 12 ∧ kR h v0 14 = some (rf h v0 14) ∧ (kT h (rf h v0 14) = 50 ∧ vp_in (((36 * v1) + (3 * v3)) + v4) (kN h (rf h v0 14)) ∧ (kT h v0 = 12 ∧ kR h v0 14 = some (rf h v0 14) ∧ (kT h (rf h v0 14) = 50 ∧ vp_in (((36 * v2) + (3 * v3)) + v4) (kN h (rf h v0 14)) ∧ (((kI h (rf h v0 14) (Int32.toNatClampNeg (((36 * v1) + (3 * v3)) + v4))) = (-1) → (∀ z1 : Int32, z1 = (if (kI h (rf h v0 14) (Int32.toNatClampNeg (((36 * v1) + (3 * v3)) + v4))) = (kI h (rf h v0 14) (Int32.toNatClampNeg (((36 * v2) + (3 * v3)) + v4))) then 1 else 0) → (nb z1 ∧ K (some (.int z1)) h))) ∧ (¬ (kI h (rf h v0 14) (Int32.toNatClampNeg (((36 * v1) + (3 * v3)) + v4))) = (-1) → (((kI h (rf h v0 14) (Int32.toNatClampNeg (((36 * v2) + (3 * v3)) + v4))) = (-1) → (∀ z3 : Int32, z3 = (if (kI h (rf h v0 14) (Int32.toNatClampNeg (((36 * v1) + (3 * v3)) + v4))) = (kI h (rf h v0 14) (Int32.toNatClampNeg (((36 * v2) + (3 * v3)) + v4))) then 1 else 0) → (nb z3 ∧ K (some (.int z3)) h))) ∧ (¬ (kI h (rf h v0 14) (Int32.toNatClampNeg (((36 * v2) + (3 * v3)) + v4))) = (-1) → X G M Q 84 [(0, .ref v0), (1, .int v1), (2, .int v2), (3, .int v3), (4, .int v4), (5, .int (kI h (rf h v0 14) (Int32.toNatClampNeg (((36 * v1) + (3 * v3)) + v4)))), (6, .int (kI h (rf h v0 14) (Int32.toNatClampNeg (((36 * v2) + (3 * v3)) + v4)))), (7, .int 0), (8, .int 0), (9, .int 0)] [] h)))))))))))) : X G M Q 3 [(0, .ref v0), (1, .int v1), (2, .int v2), (3, .int v3), (4, .int v4)] [] h := by
  refine x_iload hM d_Mo_isOneWay_3 4 rfl ?_
  refine x_aload_n hM d_Mo_isOneWay_5 rfl 0 rfl ?_
  obtain ⟨c18, F⟩ := F
  obtain ⟨c19, F⟩ := F
  refine x_getr hG hM ck_Mo 4 (Nat.le_of_ble_eq_true rfl) rfl rfl w_901 rfl d_Mo_isOneWay_6 c18 c19 ?_
  refine x_iload_n hM d_Mo_isOneWay_9 rfl 3 rfl ?_
  obtain ⟨c16, F⟩ := F
  obtain ⟨c17, F⟩ := F
  refine x_iaload hG hM d_Mo_isOneWay_10 c16 c17 ?_
  refine x_icmp_ge (tgt := 205) hM d_Mo_isOneWay_11 (by decide) (fun q15 => ?_) (fun q15 => ?_)
  · replace F := F.1 q15
    refine x_iconst (v := 1) hM d_Mo_isOneWay_205 (by decide) ?_
    exact x_zreturn hM d_Mo_isOneWay_206 rfl (Or.inr rfl) F
  · replace F := F.2 q15
    refine x_aload_n hM d_Mo_isOneWay_14 rfl 0 rfl ?_
    obtain ⟨c13, F⟩ := F
    obtain ⟨c14, F⟩ := F
    refine x_getr hG hM ck_Mo 14 (Nat.le_of_ble_eq_true rfl) rfl rfl w_911 rfl d_Mo_isOneWay_15 c13 c14 ?_
    refine x_bipush (v := 36) hM d_Mo_isOneWay_18 (by decide) ?_
    refine x_iload_n hM d_Mo_isOneWay_20 rfl 1 rfl ?_
    refine x_imul hM d_Mo_isOneWay_21 ?_
    refine x_iconst (v := 3) hM d_Mo_isOneWay_22 (by decide) ?_
    refine x_iload_n hM d_Mo_isOneWay_23 rfl 3 rfl ?_
    refine x_imul hM d_Mo_isOneWay_24 ?_
    refine x_iadd hM d_Mo_isOneWay_25 ?_
    refine x_iload hM d_Mo_isOneWay_26 4 rfl ?_
    refine x_iadd hM d_Mo_isOneWay_28 ?_
    obtain ⟨c11, F⟩ := F
    obtain ⟨c12, F⟩ := F
    refine x_iaload hG hM d_Mo_isOneWay_29 c11 c12 ?_
    refine x_istore (lv2 := [(5, .int (kI h (rf h v0 14) (Int32.toNatClampNeg (((36 * v1) + (3 * v3)) + v4)))), (0, .ref v0), (1, .int v1), (2, .int v2), (3, .int v3), (4, .int v4)]) hM d_Mo_isOneWay_30 (Nat.le_of_ble_eq_true rfl) rfl ?_
    refine x_aload_n hM d_Mo_isOneWay_32 rfl 1 rfl ?_
    obtain ⟨c9, F⟩ := F
    obtain ⟨c10, F⟩ := F
    refine x_getr hG hM ck_Mo 14 (Nat.le_of_ble_eq_true rfl) rfl rfl w_911 rfl d_Mo_isOneWay_33 c9 c10 ?_
    refine x_bipush (v := 36) hM d_Mo_isOneWay_36 (by decide) ?_
    refine x_iload_n hM d_Mo_isOneWay_38 rfl 3 rfl ?_
    refine x_imul hM d_Mo_isOneWay_39 ?_
    refine x_iconst (v := 3) hM d_Mo_isOneWay_40 (by decide) ?_
    refine x_iload_n hM d_Mo_isOneWay_41 rfl 4 rfl ?_
    refine x_imul hM d_Mo_isOneWay_42 ?_
    refine x_iadd hM d_Mo_isOneWay_43 ?_
    refine x_iload hM d_Mo_isOneWay_44 5 rfl ?_
    refine x_iadd hM d_Mo_isOneWay_46 ?_
    obtain ⟨c7, F⟩ := F
    obtain ⟨c8, F⟩ := F
    refine x_iaload hG hM d_Mo_isOneWay_47 c7 c8 ?_
    refine x_istore (lv2 := [(6, .int (kI h (rf h v0 14) (Int32.toNatClampNeg (((36 * v2) + (3 * v3)) + v4)))), (5, .int (kI h (rf h v0 14) (Int32.toNatClampNeg (((36 * v1) + (3 * v3)) + v4)))), (0, .ref v0), (1, .int v1), (2, .int v2), (3, .int v3), (4, .int v4)]) hM d_Mo_isOneWay_48 (Nat.le_of_ble_eq_true rfl) rfl ?_
    refine x_iload hM d_Mo_isOneWay_50 1 rfl ?_
    refine x_iconst (v := (-1)) hM d_Mo_isOneWay_52 (by decide) ?_
    refine x_icmp_eq (tgt := 62) hM d_Mo_isOneWay_53 (by decide) (fun q6 => ?_) (fun q6 => ?_)
    · replace F := F.1 q6
      refine x_iload hM d_Mo_isOneWay_62 1 rfl ?_
      refine x_iload hM d_Mo_isOneWay_64 0 rfl ?_
      have JJ : ∀ (z1 : Int32) (ez1 : z1 = (if (kI h (rf h v0 14) (Int32.toNatClampNeg (((36 * v1) + (3 * v3)) + v4))) = (kI h (rf h v0 14) (Int32.toNatClampNeg (((36 * v2) + (3 * v3)) + v4))) then 1 else 0)), X G M Q 74 [] [.int z1] h := by
        intro z1 ez1
        replace F := F _ ez1
        exact x_zreturn hM d_Mo_isOneWay_74 rfl F.1 F.2
      refine x_icmp_ne (tgt := 73) hM d_Mo_isOneWay_66 (by decide) (fun q2 => ?_) (fun q2 => ?_)
      · refine x_iconst (v := 0) hM d_Mo_isOneWay_73 (by decide) ?_
        refine x_sub [] rfl ?_
        exact JJ _ (Eq.symm (if_neg q2))
      · refine x_iconst (v := 1) hM d_Mo_isOneWay_69 (by decide) ?_
        refine x_goto (tgt := 74) hM d_Mo_isOneWay_70 (by decide) ?_
        refine x_sub [] rfl ?_
        exact JJ _ (Eq.symm (if_pos q2))
    · replace F := F.2 q6
      refine x_iload hM d_Mo_isOneWay_56 0 rfl ?_
      refine x_iconst (v := (-1)) hM d_Mo_isOneWay_58 (by decide) ?_
      refine x_icmp_ne (tgt := 75) hM d_Mo_isOneWay_59 (by decide) (fun q5 => ?_) (fun q5 => ?_)
      · replace F := F.2 q5
        refine x_iconst (v := 0) hM d_Mo_isOneWay_75 (by decide) ?_
        refine x_istore (lv2 := [(7, .int 0), (6, .int (kI h (rf h v0 14) (Int32.toNatClampNeg (((36 * v2) + (3 * v3)) + v4)))), (5, .int (kI h (rf h v0 14) (Int32.toNatClampNeg (((36 * v1) + (3 * v3)) + v4)))), (0, .ref v0), (1, .int v1), (2, .int v2), (3, .int v3), (4, .int v4)]) hM d_Mo_isOneWay_76 (Nat.le_of_ble_eq_true rfl) rfl ?_
        refine x_iconst (v := 0) hM d_Mo_isOneWay_78 (by decide) ?_
        refine x_istore (lv2 := [(8, .int 0), (7, .int 0), (6, .int (kI h (rf h v0 14) (Int32.toNatClampNeg (((36 * v2) + (3 * v3)) + v4)))), (5, .int (kI h (rf h v0 14) (Int32.toNatClampNeg (((36 * v1) + (3 * v3)) + v4)))), (0, .ref v0), (1, .int v1), (2, .int v2), (3, .int v3), (4, .int v4)]) hM d_Mo_isOneWay_79 (Nat.le_of_ble_eq_true rfl) rfl ?_
        refine x_iconst (v := 0) hM d_Mo_isOneWay_81 (by decide) ?_
        refine x_istore (lv2 := [(9, .int 0), (8, .int 0), (7, .int 0), (6, .int (kI h (rf h v0 14) (Int32.toNatClampNeg (((36 * v2) + (3 * v3)) + v4)))), (5, .int (kI h (rf h v0 14) (Int32.toNatClampNeg (((36 * v1) + (3 * v3)) + v4)))), (0, .ref v0), (1, .int v1), (2, .int v2), (3, .int v3), (4, .int v4)]) hM d_Mo_isOneWay_82 (Nat.le_of_ble_eq_true rfl) rfl ?_
        refine x_sub [5, 6, 7, 8, 9, 4, 3, 2, 1, 0] rfl ?_
        exact F
      · replace F := F.1 q5
        refine x_iload hM d_Mo_isOneWay_62 1 rfl ?_
        refine x_iload hM d_Mo_isOneWay_64 0 rfl ?_
        have JJ : ∀ (z3 : Int32) (ez3 : z3 = (if (kI h (rf h v0 14) (Int32.toNatClampNeg (((36 * v1) + (3 * v3)) + v4))) = (kI h (rf h v0 14) (Int32.toNatClampNeg (((36 * v2) + (3 * v3)) + v4))) then 1 else 0)), X G M Q 74 [] [.int z3] h := by
          intro z3 ez3
          replace F := F _ ez3
          exact x_zreturn hM d_Mo_isOneWay_74 rfl F.1 F.2
        refine x_icmp_ne (tgt := 73) hM d_Mo_isOneWay_66 (by decide) (fun q4 => ?_) (fun q4 => ?_)
        · refine x_iconst (v := 0) hM d_Mo_isOneWay_73 (by decide) ?_
          refine x_sub [] rfl ?_
          exact JJ _ (Eq.symm (if_neg q4))
        · refine x_iconst (v := 1) hM d_Mo_isOneWay_69 (by decide) ?_
          refine x_goto (tgt := 74) hM d_Mo_isOneWay_70 (by decide) ?_
          refine x_sub [] rfl ?_
          exact JJ _ (Eq.symm (if_pos q4))
set_option maxRecDepth 100000 in
set_option maxHeartbeats 4000000 in
theorem S_Mo_isOneWay_84 {G : Gc} {M : Mc} {Q : State → Prop} {K : Option Value → Hp → Prop} (hG : gok G) (hM : mok G M r_Mo_isOneWay Q K) (v0 : Nat) (v1 : Int32) (v2 : Int32) (v3 : Int32) (v4 : Int32) (v5 : Int32) (v6 : Int32) (v7 : Int32) (v8 : Int32) (v9 : Int32) (h : Hp) (F : kT h v0 = 12 ∧ kR h v0 4 = some (rf h v0 4) ∧ (kT h (rf h v0 4) = 50 ∧ vp_in v3 (kN h (rf h v0 4)) ∧ (((kI h (rf h v0 4) (Int32.toNatClampNeg v3)) ≤ v9 → ((v7 = 0 → K (some (.int 0)) h) ∧ (¬ v7 = 0 → ((v8 = 0 → K (some (.int 0)) h) ∧ (¬ v8 = 0 → X G M Q 3 [(0, .ref v0), (1, .int v1), (2, .int v2), (3, .int v3), (4, .int (v4 + 1))] [] h))))) ∧ (¬ (kI h (rf h v0 4) (Int32.toNatClampNeg v3)) ≤ v9 → ((v7 = 0 → (kT h v0 = 12 ∧ kR h v0 27 = some (rf h v0 27) ∧ kT h (rf h v0 27) = 50 ∧ vp_in v5 (kN h (rf h v0 27)) ∧ kT h v0 = 12 ∧ kR h v0 27 = some (rf h v0 27) ∧ kT h v0 = 12 ∧ kR h v0 14 = some (rf h v0 14) ∧ kT h (rf h v0 14) = 50 ∧ vp_in (((36 * v2) + (3 * v3)) + v9) (kN h (rf h v0 14)) ∧ kT h (rf h v0 27) = 50 ∧ vp_in (kI h (rf h v0 14) (Int32.toNatClampNeg (((36 * v2) + (3 * v3)) + v9))) (kN h (rf h v0 27)))) ∧ (∀ z3 : Int32, z3 = (if v7 = 0 then (if (kI h (rf h v0 27) (Int32.toNatClampNeg v5)) = (kI h (rf h v0 27) (Int32.toNatClampNeg (kI h (rf h v0 14) (Int32.toNatClampNeg (((36 * v2) + (3 * v3)) + v9))))) then 1 else 0) else 1) → ((v8 = 0 → (kT h v0 = 12 ∧ kR h v0 27 = some (rf h v0 27) ∧ kT h (rf h v0 27) = 50 ∧ vp_in v6 (kN h (rf h v0 27)) ∧ kT h v0 = 12 ∧ kR h v0 27 = some (rf h v0 27) ∧ kT h v0 = 12 ∧ kR h v0 14 = some (rf h v0 14) ∧ kT h (rf h v0 14) = 50 ∧ vp_in (((36 * v1) + (3 * v3)) + v9) (kN h (rf h v0 14)) ∧ kT h (rf h v0 27) = 50 ∧ vp_in (kI h (rf h v0 14) (Int32.toNatClampNeg (((36 * v1) + (3 * v3)) + v9))) (kN h (rf h v0 27)))) ∧ (∀ z4 : Int32, z4 = (if v8 = 0 then (if (kI h (rf h v0 27) (Int32.toNatClampNeg v6)) = (kI h (rf h v0 27) (Int32.toNatClampNeg (kI h (rf h v0 14) (Int32.toNatClampNeg (((36 * v1) + (3 * v3)) + v9))))) then 1 else 0) else 1) → X G M Q 84 [(0, .ref v0), (1, .int v1), (2, .int v2), (3, .int v3), (4, .int v4), (5, .int v5), (6, .int v6), (7, .int z3), (8, .int z4), (9, .int (v9 + 1))] [] h)))))))) : X G M Q 84 [(0, .ref v0), (1, .int v1), (2, .int v2), (3, .int v3), (4, .int v4), (5, .int v5), (6, .int v6), (7, .int v7), (8, .int v8), (9, .int v9)] [] h := by
  refine x_iload hM d_Mo_isOneWay_84 9 rfl ?_
  refine x_aload_n hM d_Mo_isOneWay_86 rfl 0 rfl ?_
  obtain ⟨c36, F⟩ := F
  obtain ⟨c37, F⟩ := F
  refine x_getr hG hM ck_Mo 4 (Nat.le_of_ble_eq_true rfl) rfl rfl w_901 rfl d_Mo_isOneWay_87 c36 c37 ?_
  refine x_iload_n hM d_Mo_isOneWay_90 rfl 3 rfl ?_
  obtain ⟨c34, F⟩ := F
  obtain ⟨c35, F⟩ := F
  refine x_iaload hG hM d_Mo_isOneWay_91 c34 c35 ?_
  refine x_icmp_ge (tgt := 187) hM d_Mo_isOneWay_92 (by decide) (fun q33 => ?_) (fun q33 => ?_)
  · replace F := F.1 q33
    refine x_iload hM d_Mo_isOneWay_187 7 rfl ?_
    refine x_if_eq (tgt := 197) hM d_Mo_isOneWay_189 (by decide) (fun q2 => ?_) (fun q2 => ?_)
    · replace F := F.1 q2
      refine x_iconst (v := 0) hM d_Mo_isOneWay_197 (by decide) ?_
      exact x_zreturn hM d_Mo_isOneWay_198 rfl (Or.inl rfl) F
    · replace F := F.2 q2
      refine x_iload hM d_Mo_isOneWay_192 8 rfl ?_
      refine x_if_ne (tgt := 199) hM d_Mo_isOneWay_194 (by decide) (fun q1 => ?_) (fun q1 => ?_)
      · replace F := F.2 q1
        refine x_iinc (v := (v4 + 1)) (lv2 := [(4, .int (v4 + 1)), (0, .ref v0), (1, .int v1), (2, .int v2), (3, .int v3), (5, .int v5), (6, .int v6), (7, .int v7), (8, .int v8), (9, .int v9)]) hM d_Mo_isOneWay_199 (j := 4) rfl rfl (Nat.le_of_ble_eq_true rfl) rfl ?_
        refine x_goto (tgt := 3) hM d_Mo_isOneWay_202 (by decide) ?_
        refine x_sub [1, 2, 3, 4, 0] rfl ?_
        exact F
      · replace F := F.1 q1
        refine x_iconst (v := 0) hM d_Mo_isOneWay_197 (by decide) ?_
        exact x_zreturn hM d_Mo_isOneWay_198 rfl (Or.inl rfl) F
  · replace F := F.2 q33
    refine x_iload hM d_Mo_isOneWay_95 7 rfl ?_
    obtain ⟨S, F⟩ := F
    have JJ : ∀ (z3 : Int32) (ez3 : z3 = (if v7 = 0 then (if (kI h (rf h v0 27) (Int32.toNatClampNeg v5)) = (kI h (rf h v0 27) (Int32.toNatClampNeg (kI h (rf h v0 14) (Int32.toNatClampNeg (((36 * v2) + (3 * v3)) + v9))))) then 1 else 0) else 1)), X G M Q 136 [(0, .ref v0), (1, .int v1), (2, .int v2), (3, .int v3), (4, .int v4), (5, .int v5), (6, .int v6), (8, .int v8), (9, .int v9)] [.int z3] h := by
      intro z3 ez3
      replace F := F _ ez3
      refine x_istore (lv2 := [(7, .int z3), (0, .ref v0), (1, .int v1), (2, .int v2), (3, .int v3), (4, .int v4), (5, .int v5), (6, .int v6), (8, .int v8), (9, .int v9)]) hM d_Mo_isOneWay_136 (Nat.le_of_ble_eq_true rfl) rfl ?_
      refine x_iload hM d_Mo_isOneWay_138 8 rfl ?_
      obtain ⟨S, F⟩ := F
      have JJ : ∀ (z4 : Int32) (ez4 : z4 = (if v8 = 0 then (if (kI h (rf h v0 27) (Int32.toNatClampNeg v6)) = (kI h (rf h v0 27) (Int32.toNatClampNeg (kI h (rf h v0 14) (Int32.toNatClampNeg (((36 * v1) + (3 * v3)) + v9))))) then 1 else 0) else 1)), X G M Q 179 [(0, .ref v0), (1, .int v1), (2, .int v2), (3, .int v3), (4, .int v4), (5, .int v5), (6, .int v6), (7, .int z3), (9, .int v9)] [.int z4] h := by
        intro z4 ez4
        replace F := F _ ez4
        refine x_istore (lv2 := [(8, .int z4), (0, .ref v0), (1, .int v1), (2, .int v2), (3, .int v3), (4, .int v4), (5, .int v5), (6, .int v6), (7, .int z3), (9, .int v9)]) hM d_Mo_isOneWay_179 (Nat.le_of_ble_eq_true rfl) rfl ?_
        refine x_iinc (v := (v9 + 1)) (lv2 := [(9, .int (v9 + 1)), (8, .int z4), (0, .ref v0), (1, .int v1), (2, .int v2), (3, .int v3), (4, .int v4), (5, .int v5), (6, .int v6), (7, .int z3)]) hM d_Mo_isOneWay_181 (j := 9) rfl rfl (Nat.le_of_ble_eq_true rfl) rfl ?_
        refine x_goto (tgt := 84) hM d_Mo_isOneWay_184 (by decide) ?_
        refine x_sub [2, 3, 4, 5, 6, 7, 8, 9, 1, 0] rfl ?_
        exact F
      refine x_if_ne (tgt := 174) hM d_Mo_isOneWay_140 (by decide) (fun q5 => ?_) (fun q5 => ?_)
      · refine x_iconst (v := 1) hM d_Mo_isOneWay_174 (by decide) ?_
        refine x_goto (tgt := 179) hM d_Mo_isOneWay_175 (by decide) ?_
        refine x_sub [1, 2, 3, 4, 5, 6, 7, 0, 9] rfl ?_
        exact JJ _ (Eq.symm (if_neg q5))
      · replace S := S q5
        refine x_aload_n hM d_Mo_isOneWay_143 rfl 1 rfl ?_
        obtain ⟨c6, S⟩ := S
        obtain ⟨c7, S⟩ := S
        refine x_getr hG hM ck_Mo 27 (Nat.le_of_ble_eq_true rfl) rfl rfl w_924 rfl d_Mo_isOneWay_144 c6 c7 ?_
        refine x_iload hM d_Mo_isOneWay_147 7 rfl ?_
        obtain ⟨c8, S⟩ := S
        obtain ⟨c9, S⟩ := S
        refine x_iaload hG hM d_Mo_isOneWay_149 c8 c9 ?_
        refine x_aload_n hM d_Mo_isOneWay_150 rfl 1 rfl ?_
        obtain ⟨c10, S⟩ := S
        obtain ⟨c11, S⟩ := S
        refine x_getr hG hM ck_Mo 27 (Nat.le_of_ble_eq_true rfl) rfl rfl w_924 rfl d_Mo_isOneWay_151 c10 c11 ?_
        refine x_aload_n hM d_Mo_isOneWay_154 rfl 1 rfl ?_
        obtain ⟨c12, S⟩ := S
        obtain ⟨c13, S⟩ := S
        refine x_getr hG hM ck_Mo 14 (Nat.le_of_ble_eq_true rfl) rfl rfl w_911 rfl d_Mo_isOneWay_155 c12 c13 ?_
        refine x_bipush (v := 36) hM d_Mo_isOneWay_158 (by decide) ?_
        refine x_iload_n hM d_Mo_isOneWay_160 rfl 2 rfl ?_
        refine x_imul hM d_Mo_isOneWay_161 ?_
        refine x_iconst (v := 3) hM d_Mo_isOneWay_162 (by decide) ?_
        refine x_iload_n hM d_Mo_isOneWay_163 rfl 4 rfl ?_
        refine x_imul hM d_Mo_isOneWay_164 ?_
        refine x_iadd hM d_Mo_isOneWay_165 ?_
        refine x_iload hM d_Mo_isOneWay_166 9 rfl ?_
        refine x_iadd hM d_Mo_isOneWay_168 ?_
        obtain ⟨c14, S⟩ := S
        obtain ⟨c15, S⟩ := S
        refine x_iaload hG hM d_Mo_isOneWay_169 c14 c15 ?_
        obtain ⟨c16, S⟩ := S
        have c17 := S
        refine x_iaload hG hM d_Mo_isOneWay_170 c16 c17 ?_
        refine x_icmp_ne (tgt := 178) hM d_Mo_isOneWay_171 (by decide) (fun q18 => ?_) (fun q18 => ?_)
        · refine x_iconst (v := 0) hM d_Mo_isOneWay_178 (by decide) ?_
          refine x_sub [1, 2, 3, 4, 5, 6, 7, 0, 9] rfl ?_
          exact JJ _ (Eq.symm (Eq.trans (if_pos q5) (if_neg q18)))
        · refine x_iconst (v := 1) hM d_Mo_isOneWay_174 (by decide) ?_
          refine x_goto (tgt := 179) hM d_Mo_isOneWay_175 (by decide) ?_
          refine x_sub [1, 2, 3, 4, 5, 6, 7, 0, 9] rfl ?_
          exact JJ _ (Eq.symm (Eq.trans (if_pos q5) (if_pos q18)))
    refine x_if_ne (tgt := 131) hM d_Mo_isOneWay_97 (by decide) (fun q19 => ?_) (fun q19 => ?_)
    · refine x_iconst (v := 1) hM d_Mo_isOneWay_131 (by decide) ?_
      refine x_goto (tgt := 136) hM d_Mo_isOneWay_132 (by decide) ?_
      refine x_sub [0, 1, 2, 3, 4, 5, 6, 8, 9] rfl ?_
      exact JJ _ (Eq.symm (if_neg q19))
    · replace S := S q19
      refine x_aload_n hM d_Mo_isOneWay_100 rfl 0 rfl ?_
      obtain ⟨c20, S⟩ := S
      obtain ⟨c21, S⟩ := S
      refine x_getr hG hM ck_Mo 27 (Nat.le_of_ble_eq_true rfl) rfl rfl w_924 rfl d_Mo_isOneWay_101 c20 c21 ?_
      refine x_iload hM d_Mo_isOneWay_104 5 rfl ?_
      obtain ⟨c22, S⟩ := S
      obtain ⟨c23, S⟩ := S
      refine x_iaload hG hM d_Mo_isOneWay_106 c22 c23 ?_
      refine x_aload_n hM d_Mo_isOneWay_107 rfl 0 rfl ?_
      obtain ⟨c24, S⟩ := S
      obtain ⟨c25, S⟩ := S
      refine x_getr hG hM ck_Mo 27 (Nat.le_of_ble_eq_true rfl) rfl rfl w_924 rfl d_Mo_isOneWay_108 c24 c25 ?_
      refine x_aload_n hM d_Mo_isOneWay_111 rfl 0 rfl ?_
      obtain ⟨c26, S⟩ := S
      obtain ⟨c27, S⟩ := S
      refine x_getr hG hM ck_Mo 14 (Nat.le_of_ble_eq_true rfl) rfl rfl w_911 rfl d_Mo_isOneWay_112 c26 c27 ?_
      refine x_bipush (v := 36) hM d_Mo_isOneWay_115 (by decide) ?_
      refine x_iload_n hM d_Mo_isOneWay_117 rfl 2 rfl ?_
      refine x_imul hM d_Mo_isOneWay_118 ?_
      refine x_iconst (v := 3) hM d_Mo_isOneWay_119 (by decide) ?_
      refine x_iload_n hM d_Mo_isOneWay_120 rfl 3 rfl ?_
      refine x_imul hM d_Mo_isOneWay_121 ?_
      refine x_iadd hM d_Mo_isOneWay_122 ?_
      refine x_iload hM d_Mo_isOneWay_123 9 rfl ?_
      refine x_iadd hM d_Mo_isOneWay_125 ?_
      obtain ⟨c28, S⟩ := S
      obtain ⟨c29, S⟩ := S
      refine x_iaload hG hM d_Mo_isOneWay_126 c28 c29 ?_
      obtain ⟨c30, S⟩ := S
      have c31 := S
      refine x_iaload hG hM d_Mo_isOneWay_127 c30 c31 ?_
      refine x_icmp_ne (tgt := 135) hM d_Mo_isOneWay_128 (by decide) (fun q32 => ?_) (fun q32 => ?_)
      · refine x_iconst (v := 0) hM d_Mo_isOneWay_135 (by decide) ?_
        refine x_sub [0, 1, 2, 3, 4, 5, 6, 8, 9] rfl ?_
        exact JJ _ (Eq.symm (Eq.trans (if_pos q19) (if_neg q32)))
      · refine x_iconst (v := 1) hM d_Mo_isOneWay_131 (by decide) ?_
        refine x_goto (tgt := 136) hM d_Mo_isOneWay_132 (by decide) ?_
        refine x_sub [0, 1, 2, 3, 4, 5, 6, 8, 9] rfl ?_
        exact JJ _ (Eq.symm (Eq.trans (if_pos q19) (if_pos q32)))
