theorem d_Ki_sortByGroup_0 : decode b_Ki_sortByGroup 0 = .ok (.aload_n 0, 1) := by decide +kernel
theorem d_Ki_sortByGroup_1 : decode b_Ki_sortByGroup 1 = .ok (.getfield 53, 3) := by decide +kernel
theorem d_Ki_sortByGroup_4 : decode b_Ki_sortByGroup 4 = .ok (.iconst 0, 1) := by decide +kernel
theorem d_Ki_sortByGroup_5 : decode b_Ki_sortByGroup 5 = .ok (.iload_n 3, 1) := by decide +kernel
theorem d_Ki_sortByGroup_6 : decode b_Ki_sortByGroup 6 = .ok (.iconst 0, 1) := by decide +kernel
theorem d_Ki_sortByGroup_7 : decode b_Ki_sortByGroup 7 = .ok (.invokestatic 122, 3) := by decide +kernel
theorem d_Ki_sortByGroup_10 : decode b_Ki_sortByGroup 10 = .ok (.iload_n 1, 1) := by decide +kernel
theorem d_Ki_sortByGroup_11 : decode b_Ki_sortByGroup 11 = .ok (.istore 4, 2) := by decide +kernel
theorem d_Ki_sortByGroup_13 : decode b_Ki_sortByGroup 13 = .ok (.iload 4, 2) := by decide +kernel
theorem d_Ki_sortByGroup_15 : decode b_Ki_sortByGroup 15 = .ok (.iload_n 2, 1) := by decide +kernel
theorem d_Ki_sortByGroup_16 : decode b_Ki_sortByGroup 16 = .ok (.if_icmp .ge 30, 3) := by decide +kernel
theorem d_Ki_sortByGroup_19 : decode b_Ki_sortByGroup 19 = .ok (.aload_n 0, 1) := by decide +kernel
theorem d_Ki_sortByGroup_20 : decode b_Ki_sortByGroup 20 = .ok (.getfield 53, 3) := by decide +kernel
theorem d_Ki_sortByGroup_23 : decode b_Ki_sortByGroup 23 = .ok (.aload_n 0, 1) := by decide +kernel
theorem d_Ki_sortByGroup_24 : decode b_Ki_sortByGroup 24 = .ok (.getfield 50, 3) := by decide +kernel
theorem d_Ki_sortByGroup_27 : decode b_Ki_sortByGroup 27 = .ok (.aload_n 0, 1) := by decide +kernel
theorem d_Ki_sortByGroup_28 : decode b_Ki_sortByGroup 28 = .ok (.getfield 26, 3) := by decide +kernel
theorem d_Ki_sortByGroup_31 : decode b_Ki_sortByGroup 31 = .ok (.iload 4, 2) := by decide +kernel
theorem d_Ki_sortByGroup_33 : decode b_Ki_sortByGroup 33 = .ok (.iaload, 1) := by decide +kernel
theorem d_Ki_sortByGroup_34 : decode b_Ki_sortByGroup 34 = .ok (.iaload, 1) := by decide +kernel
theorem d_Ki_sortByGroup_35 : decode b_Ki_sortByGroup 35 = .ok (.dup2, 1) := by decide +kernel
theorem d_Ki_sortByGroup_36 : decode b_Ki_sortByGroup 36 = .ok (.iaload, 1) := by decide +kernel
theorem d_Ki_sortByGroup_37 : decode b_Ki_sortByGroup 37 = .ok (.iconst 1, 1) := by decide +kernel
theorem d_Ki_sortByGroup_38 : decode b_Ki_sortByGroup 38 = .ok (.iadd, 1) := by decide +kernel
theorem d_Ki_sortByGroup_39 : decode b_Ki_sortByGroup 39 = .ok (.iastore, 1) := by decide +kernel
theorem d_Ki_sortByGroup_40 : decode b_Ki_sortByGroup 40 = .ok (.iinc 4 1, 3) := by decide +kernel
theorem d_Ki_sortByGroup_43 : decode b_Ki_sortByGroup 43 = .ok (.goto (-30), 3) := by decide +kernel
theorem d_Ki_sortByGroup_46 : decode b_Ki_sortByGroup 46 = .ok (.iload_n 1, 1) := by decide +kernel
theorem d_Ki_sortByGroup_47 : decode b_Ki_sortByGroup 47 = .ok (.istore 4, 2) := by decide +kernel
theorem d_Ki_sortByGroup_49 : decode b_Ki_sortByGroup 49 = .ok (.iconst 1, 1) := by decide +kernel
theorem d_Ki_sortByGroup_50 : decode b_Ki_sortByGroup 50 = .ok (.istore 5, 2) := by decide +kernel
theorem d_Ki_sortByGroup_52 : decode b_Ki_sortByGroup 52 = .ok (.iload 5, 2) := by decide +kernel
theorem d_Ki_sortByGroup_54 : decode b_Ki_sortByGroup 54 = .ok (.iload_n 3, 1) := by decide +kernel
theorem d_Ki_sortByGroup_55 : decode b_Ki_sortByGroup 55 = .ok (.if_icmp .ge 30, 3) := by decide +kernel
theorem d_Ki_sortByGroup_58 : decode b_Ki_sortByGroup 58 = .ok (.aload_n 0, 1) := by decide +kernel
theorem d_Ki_sortByGroup_59 : decode b_Ki_sortByGroup 59 = .ok (.getfield 56, 3) := by decide +kernel
theorem d_Ki_sortByGroup_62 : decode b_Ki_sortByGroup 62 = .ok (.iload 5, 2) := by decide +kernel
theorem d_Ki_sortByGroup_64 : decode b_Ki_sortByGroup 64 = .ok (.iload 4, 2) := by decide +kernel
theorem d_Ki_sortByGroup_66 : decode b_Ki_sortByGroup 66 = .ok (.iastore, 1) := by decide +kernel
theorem d_Ki_sortByGroup_67 : decode b_Ki_sortByGroup 67 = .ok (.iload 4, 2) := by decide +kernel
theorem d_Ki_sortByGroup_69 : decode b_Ki_sortByGroup 69 = .ok (.aload_n 0, 1) := by decide +kernel
theorem d_Ki_sortByGroup_70 : decode b_Ki_sortByGroup 70 = .ok (.getfield 53, 3) := by decide +kernel
theorem d_Ki_sortByGroup_73 : decode b_Ki_sortByGroup 73 = .ok (.iload 5, 2) := by decide +kernel
theorem d_Ki_sortByGroup_75 : decode b_Ki_sortByGroup 75 = .ok (.iaload, 1) := by decide +kernel
theorem d_Ki_sortByGroup_76 : decode b_Ki_sortByGroup 76 = .ok (.iadd, 1) := by decide +kernel
theorem d_Ki_sortByGroup_77 : decode b_Ki_sortByGroup 77 = .ok (.istore 4, 2) := by decide +kernel
theorem d_Ki_sortByGroup_79 : decode b_Ki_sortByGroup 79 = .ok (.iinc 5 1, 3) := by decide +kernel
theorem d_Ki_sortByGroup_82 : decode b_Ki_sortByGroup 82 = .ok (.goto (-30), 3) := by decide +kernel
theorem d_Ki_sortByGroup_85 : decode b_Ki_sortByGroup 85 = .ok (.aload_n 0, 1) := by decide +kernel
theorem d_Ki_sortByGroup_86 : decode b_Ki_sortByGroup 86 = .ok (.getfield 56, 3) := by decide +kernel
theorem d_Ki_sortByGroup_89 : decode b_Ki_sortByGroup 89 = .ok (.iconst 0, 1) := by decide +kernel
theorem d_Ki_sortByGroup_90 : decode b_Ki_sortByGroup 90 = .ok (.iload 4, 2) := by decide +kernel
theorem d_Ki_sortByGroup_92 : decode b_Ki_sortByGroup 92 = .ok (.iastore, 1) := by decide +kernel
theorem d_Ki_sortByGroup_93 : decode b_Ki_sortByGroup 93 = .ok (.iload_n 1, 1) := by decide +kernel
theorem d_Ki_sortByGroup_94 : decode b_Ki_sortByGroup 94 = .ok (.istore 5, 2) := by decide +kernel
theorem d_Ki_sortByGroup_96 : decode b_Ki_sortByGroup 96 = .ok (.iload 5, 2) := by decide +kernel
theorem d_Ki_sortByGroup_98 : decode b_Ki_sortByGroup 98 = .ok (.iload_n 2, 1) := by decide +kernel
theorem d_Ki_sortByGroup_99 : decode b_Ki_sortByGroup 99 = .ok (.if_icmp .ge 53, 3) := by decide +kernel
theorem d_Ki_sortByGroup_102 : decode b_Ki_sortByGroup 102 = .ok (.aload_n 0, 1) := by decide +kernel
theorem d_Ki_sortByGroup_103 : decode b_Ki_sortByGroup 103 = .ok (.getfield 50, 3) := by decide +kernel
theorem d_Ki_sortByGroup_106 : decode b_Ki_sortByGroup 106 = .ok (.aload_n 0, 1) := by decide +kernel
theorem d_Ki_sortByGroup_107 : decode b_Ki_sortByGroup 107 = .ok (.getfield 26, 3) := by decide +kernel
theorem d_Ki_sortByGroup_110 : decode b_Ki_sortByGroup 110 = .ok (.iload 5, 2) := by decide +kernel
theorem d_Ki_sortByGroup_112 : decode b_Ki_sortByGroup 112 = .ok (.iaload, 1) := by decide +kernel
theorem d_Ki_sortByGroup_113 : decode b_Ki_sortByGroup 113 = .ok (.iaload, 1) := by decide +kernel
theorem d_Ki_sortByGroup_114 : decode b_Ki_sortByGroup 114 = .ok (.istore 6, 2) := by decide +kernel
theorem d_Ki_sortByGroup_116 : decode b_Ki_sortByGroup 116 = .ok (.aload_n 0, 1) := by decide +kernel
theorem d_Ki_sortByGroup_117 : decode b_Ki_sortByGroup 117 = .ok (.getfield 59, 3) := by decide +kernel
theorem d_Ki_sortByGroup_120 : decode b_Ki_sortByGroup 120 = .ok (.aload_n 0, 1) := by decide +kernel
theorem d_Ki_sortByGroup_121 : decode b_Ki_sortByGroup 121 = .ok (.getfield 56, 3) := by decide +kernel
theorem d_Ki_sortByGroup_124 : decode b_Ki_sortByGroup 124 = .ok (.iload 6, 2) := by decide +kernel
theorem d_Ki_sortByGroup_126 : decode b_Ki_sortByGroup 126 = .ok (.iaload, 1) := by decide +kernel
theorem d_Ki_sortByGroup_127 : decode b_Ki_sortByGroup 127 = .ok (.aload_n 0, 1) := by decide +kernel
theorem d_Ki_sortByGroup_128 : decode b_Ki_sortByGroup 128 = .ok (.getfield 26, 3) := by decide +kernel
theorem d_Ki_sortByGroup_131 : decode b_Ki_sortByGroup 131 = .ok (.iload 5, 2) := by decide +kernel
theorem d_Ki_sortByGroup_133 : decode b_Ki_sortByGroup 133 = .ok (.iaload, 1) := by decide +kernel
theorem d_Ki_sortByGroup_134 : decode b_Ki_sortByGroup 134 = .ok (.iastore, 1) := by decide +kernel
theorem d_Ki_sortByGroup_135 : decode b_Ki_sortByGroup 135 = .ok (.aload_n 0, 1) := by decide +kernel
theorem d_Ki_sortByGroup_136 : decode b_Ki_sortByGroup 136 = .ok (.getfield 56, 3) := by decide +kernel
theorem d_Ki_sortByGroup_139 : decode b_Ki_sortByGroup 139 = .ok (.iload 6, 2) := by decide +kernel
theorem d_Ki_sortByGroup_141 : decode b_Ki_sortByGroup 141 = .ok (.dup2, 1) := by decide +kernel
theorem d_Ki_sortByGroup_142 : decode b_Ki_sortByGroup 142 = .ok (.iaload, 1) := by decide +kernel
theorem d_Ki_sortByGroup_143 : decode b_Ki_sortByGroup 143 = .ok (.iconst 1, 1) := by decide +kernel
theorem d_Ki_sortByGroup_144 : decode b_Ki_sortByGroup 144 = .ok (.iadd, 1) := by decide +kernel
theorem d_Ki_sortByGroup_145 : decode b_Ki_sortByGroup 145 = .ok (.iastore, 1) := by decide +kernel
theorem d_Ki_sortByGroup_146 : decode b_Ki_sortByGroup 146 = .ok (.iinc 5 1, 3) := by decide +kernel
theorem d_Ki_sortByGroup_149 : decode b_Ki_sortByGroup 149 = .ok (.goto (-53), 3) := by decide +kernel
theorem d_Ki_sortByGroup_152 : decode b_Ki_sortByGroup 152 = .ok (.iload_n 1, 1) := by decide +kernel
theorem d_Ki_sortByGroup_153 : decode b_Ki_sortByGroup 153 = .ok (.istore 5, 2) := by decide +kernel
theorem d_Ki_sortByGroup_155 : decode b_Ki_sortByGroup 155 = .ok (.iload 5, 2) := by decide +kernel
theorem d_Ki_sortByGroup_157 : decode b_Ki_sortByGroup 157 = .ok (.iload_n 2, 1) := by decide +kernel
theorem d_Ki_sortByGroup_158 : decode b_Ki_sortByGroup 158 = .ok (.if_icmp .ge 37, 3) := by decide +kernel
theorem d_Ki_sortByGroup_161 : decode b_Ki_sortByGroup 161 = .ok (.aload_n 0, 1) := by decide +kernel
theorem d_Ki_sortByGroup_162 : decode b_Ki_sortByGroup 162 = .ok (.getfield 26, 3) := by decide +kernel
theorem d_Ki_sortByGroup_165 : decode b_Ki_sortByGroup 165 = .ok (.iload 5, 2) := by decide +kernel
theorem d_Ki_sortByGroup_167 : decode b_Ki_sortByGroup 167 = .ok (.aload_n 0, 1) := by decide +kernel
theorem d_Ki_sortByGroup_168 : decode b_Ki_sortByGroup 168 = .ok (.getfield 59, 3) := by decide +kernel
theorem d_Ki_sortByGroup_171 : decode b_Ki_sortByGroup 171 = .ok (.iload 5, 2) := by decide +kernel
theorem d_Ki_sortByGroup_173 : decode b_Ki_sortByGroup 173 = .ok (.iaload, 1) := by decide +kernel
theorem d_Ki_sortByGroup_174 : decode b_Ki_sortByGroup 174 = .ok (.iastore, 1) := by decide +kernel
theorem d_Ki_sortByGroup_175 : decode b_Ki_sortByGroup 175 = .ok (.aload_n 0, 1) := by decide +kernel
theorem d_Ki_sortByGroup_176 : decode b_Ki_sortByGroup 176 = .ok (.getfield 29, 3) := by decide +kernel
theorem d_Ki_sortByGroup_179 : decode b_Ki_sortByGroup 179 = .ok (.aload_n 0, 1) := by decide +kernel
theorem d_Ki_sortByGroup_180 : decode b_Ki_sortByGroup 180 = .ok (.getfield 26, 3) := by decide +kernel
theorem d_Ki_sortByGroup_183 : decode b_Ki_sortByGroup 183 = .ok (.iload 5, 2) := by decide +kernel
theorem d_Ki_sortByGroup_185 : decode b_Ki_sortByGroup 185 = .ok (.iaload, 1) := by decide +kernel
theorem d_Ki_sortByGroup_186 : decode b_Ki_sortByGroup 186 = .ok (.iload 5, 2) := by decide +kernel
theorem d_Ki_sortByGroup_188 : decode b_Ki_sortByGroup 188 = .ok (.iastore, 1) := by decide +kernel
theorem d_Ki_sortByGroup_189 : decode b_Ki_sortByGroup 189 = .ok (.iinc 5 1, 3) := by decide +kernel
theorem d_Ki_sortByGroup_192 : decode b_Ki_sortByGroup 192 = .ok (.goto (-37), 3) := by decide +kernel
theorem d_Ki_sortByGroup_195 : decode b_Ki_sortByGroup 195 = .ok (.return_, 1) := by decide +kernel
set_option maxRecDepth 100000 in
set_option maxHeartbeats 4000000 in
theorem S_Ki_sortByGroup_0 {G : Gc} {M : Mc} {Q : State → Prop} {K : Option Value → Hp → Prop} (hG : gok G) (hM : mok G M r_Ki_sortByGroup Q K) (v0 : Nat) (v1 : Int32) (v2 : Int32) (v3 : Int32) (h : Hp) (F : kT h v0 = 10 ∧ kR h v0 13 = some (rf h v0 13) ∧ (sem G r_Ar_fill [.ref (rf h v0 13), .int 0, .int v3, .int 0] h (fun u2 h1 => u2 = none ∧ X G M Q 13 [(0, .ref v0), (1, .int v1), (2, .int v2), (3, .int v3), (4, .int v1)] [] h1))) : X G M Q 0 [(0, .ref v0), (1, .int v1), (2, .int v2), (3, .int v3)] [] h := by
  refine x_aload_n hM d_Ki_sortByGroup_0 rfl 0 rfl ?_
  obtain ⟨c3, F⟩ := F
  obtain ⟨c4, F⟩ := F
  refine x_getr hG hM ck_Ki 13 (Nat.le_of_ble_eq_true rfl) rfl rfl w_338 rfl d_Ki_sortByGroup_1 c3 c4 ?_
  refine x_iconst (v := 0) hM d_Ki_sortByGroup_4 (by decide) ?_
  refine x_iload_n hM d_Ki_sortByGroup_5 rfl 3 rfl ?_
  refine x_iconst (v := 0) hM d_Ki_sortByGroup_6 (by decide) ?_
  refine x_callS hG hM (r' := r_Ar_fill) [.ref (rf h v0 13), .int 0, .int v3, .int 0] rfl yk_Ar_fill ⟨Nat.le_of_ble_eq_true rfl, Nat.le_of_ble_eq_true rfl⟩ w_727 w_604 rfl rfl (Nat.le_of_ble_eq_true rfl) d_Ki_sortByGroup_7 (sem_mono F ?_)
  intro u2 h1 F
  obtain ⟨rfl, F⟩ := F
  refine x_iload_n hM d_Ki_sortByGroup_10 rfl 1 rfl ?_
  refine x_istore (lv2 := [(4, .int v1), (0, .ref v0), (1, .int v1), (2, .int v2), (3, .int v3)]) hM d_Ki_sortByGroup_11 (Nat.le_of_ble_eq_true rfl) rfl ?_
  refine x_sub [1, 2, 3, 4, 0] rfl ?_
  exact F
set_option maxRecDepth 100000 in
set_option maxHeartbeats 4000000 in
theorem S_Ki_sortByGroup_13 {G : Gc} {M : Mc} {Q : State → Prop} {K : Option Value → Hp → Prop} (hG : gok G) (hM : mok G M r_Ki_sortByGroup Q K) (v0 : Nat) (v1 : Int32) (v2 : Int32) (v3 : Int32) (v4 : Int32) (h : Hp) (F : (v2 ≤ v4 → X G M Q 52 [(0, .ref v0), (1, .int v1), (2, .int v2), (3, .int v3), (4, .int v1), (5, .int 1)] [] h) ∧ (¬ v2 ≤ v4 → (kT h v0 = 10 ∧ kR h v0 13 = some (rf h v0 13) ∧ (kT h v0 = 10 ∧ kR h v0 12 = some (rf h v0 12) ∧ (kT h v0 = 10 ∧ kR h v0 4 = some (rf h v0 4) ∧ (kT h (rf h v0 4) = 50 ∧ vp_in v4 (kN h (rf h v0 4)) ∧ (kT h (rf h v0 12) = 50 ∧ vp_in (kI h (rf h v0 4) (Int32.toNatClampNeg v4)) (kN h (rf h v0 12)) ∧ (kT h (rf h v0 13) = 50 ∧ vp_in (kI h (rf h v0 12) (Int32.toNatClampNeg (kI h (rf h v0 4) (Int32.toNatClampNeg v4)))) (kN h (rf h v0 13)) ∧ (kT h (rf h v0 13) = 50 ∧ vp_in (kI h (rf h v0 12) (Int32.toNatClampNeg (kI h (rf h v0 4) (Int32.toNatClampNeg v4)))) (kN h (rf h v0 13)) ∧ (∀ h1 : Hp, h1 = wI h (rf h v0 13) (Int32.toNatClampNeg (kI h (rf h v0 12) (Int32.toNatClampNeg (kI h (rf h v0 4) (Int32.toNatClampNeg v4))))) ((kI h (rf h v0 13) (Int32.toNatClampNeg (kI h (rf h v0 12) (Int32.toNatClampNeg (kI h (rf h v0 4) (Int32.toNatClampNeg v4)))))) + 1) → X G M Q 13 [(0, .ref v0), (1, .int v1), (2, .int v2), (3, .int v3), (4, .int (v4 + 1))] [] h1)))))))))) : X G M Q 13 [(0, .ref v0), (1, .int v1), (2, .int v2), (3, .int v3), (4, .int v4)] [] h := by
  refine x_iload hM d_Ki_sortByGroup_13 4 rfl ?_
  refine x_iload_n hM d_Ki_sortByGroup_15 rfl 2 rfl ?_
  refine x_icmp_ge (tgt := 46) hM d_Ki_sortByGroup_16 (by decide) (fun q16 => ?_) (fun q16 => ?_)
  · replace F := F.1 q16
    refine x_iload_n hM d_Ki_sortByGroup_46 rfl 1 rfl ?_
    refine x_istore (lv2 := [(4, .int v1), (0, .ref v0), (1, .int v1), (2, .int v2), (3, .int v3)]) hM d_Ki_sortByGroup_47 (Nat.le_of_ble_eq_true rfl) rfl ?_
    refine x_iconst (v := 1) hM d_Ki_sortByGroup_49 (by decide) ?_
    refine x_istore (lv2 := [(5, .int 1), (4, .int v1), (0, .ref v0), (1, .int v1), (2, .int v2), (3, .int v3)]) hM d_Ki_sortByGroup_50 (Nat.le_of_ble_eq_true rfl) rfl ?_
    refine x_sub [2, 3, 4, 5, 1, 0] rfl ?_
    exact F
  · replace F := F.2 q16
    refine x_aload_n hM d_Ki_sortByGroup_19 rfl 0 rfl ?_
    obtain ⟨c14, F⟩ := F
    obtain ⟨c15, F⟩ := F
    refine x_getr hG hM ck_Ki 13 (Nat.le_of_ble_eq_true rfl) rfl rfl w_338 rfl d_Ki_sortByGroup_20 c14 c15 ?_
    refine x_aload_n hM d_Ki_sortByGroup_23 rfl 0 rfl ?_
    obtain ⟨c12, F⟩ := F
    obtain ⟨c13, F⟩ := F
    refine x_getr hG hM ck_Ki 12 (Nat.le_of_ble_eq_true rfl) rfl rfl w_337 rfl d_Ki_sortByGroup_24 c12 c13 ?_
    refine x_aload_n hM d_Ki_sortByGroup_27 rfl 0 rfl ?_
    obtain ⟨c10, F⟩ := F
    obtain ⟨c11, F⟩ := F
    refine x_getr hG hM ck_Ki 4 (Nat.le_of_ble_eq_true rfl) rfl rfl w_329 rfl d_Ki_sortByGroup_28 c10 c11 ?_
    refine x_iload hM d_Ki_sortByGroup_31 4 rfl ?_
    obtain ⟨c8, F⟩ := F
    obtain ⟨c9, F⟩ := F
    refine x_iaload hG hM d_Ki_sortByGroup_33 c8 c9 ?_
    obtain ⟨c6, F⟩ := F
    obtain ⟨c7, F⟩ := F
    refine x_iaload hG hM d_Ki_sortByGroup_34 c6 c7 ?_
    refine x_dup2 hM d_Ki_sortByGroup_35 rfl rfl ?_
    obtain ⟨c4, F⟩ := F
    obtain ⟨c5, F⟩ := F
    refine x_iaload hG hM d_Ki_sortByGroup_36 c4 c5 ?_
    refine x_iconst (v := 1) hM d_Ki_sortByGroup_37 (by decide) ?_
    refine x_iadd hM d_Ki_sortByGroup_38 ?_
    obtain ⟨c2, F⟩ := F
    obtain ⟨c3, F⟩ := F
    obtain ⟨h1, eh1⟩ : ∃ z : Hp, z = wI h (rf h v0 13) (Int32.toNatClampNeg (kI h (rf h v0 12) (Int32.toNatClampNeg (kI h (rf h v0 4) (Int32.toNatClampNeg v4))))) ((kI h (rf h v0 13) (Int32.toNatClampNeg (kI h (rf h v0 12) (Int32.toNatClampNeg (kI h (rf h v0 4) (Int32.toNatClampNeg v4)))))) + 1) := ⟨_, rfl⟩
    replace F := F h1 eh1
    refine x_iastore hG hM d_Ki_sortByGroup_39 c2 c3 ?_
    rw [← eh1]
    clear eh1
    refine x_iinc (v := (v4 + 1)) (lv2 := [(4, .int (v4 + 1)), (0, .ref v0), (1, .int v1), (2, .int v2), (3, .int v3)]) hM d_Ki_sortByGroup_40 (j := 4) rfl rfl (Nat.le_of_ble_eq_true rfl) rfl ?_
    refine x_goto (tgt := 13) hM d_Ki_sortByGroup_43 (by decide) ?_
    refine x_sub [1, 2, 3, 4, 0] rfl ?_
    exact F
set_option maxRecDepth 100000 in
set_option maxHeartbeats 4000000 in
theorem S_Ki_sortByGroup_52 {G : Gc} {M : Mc} {Q : State → Prop} {K : Option Value → Hp → Prop} (hG : gok G) (hM : mok G M r_Ki_sortByGroup Q K) (v0 : Nat) (v1 : Int32) (v2 : Int32) (v3 : Int32) (v4 : Int32) (v5 : Int32) (h : Hp) (F : (v3 ≤ v5 → (kT h v0 = 10 ∧ kR h v0 14 = some (rf h v0 14) ∧ (kT h (rf h v0 14) = 50 ∧ vp_in 0 (kN h (rf h v0 14)) ∧ (∀ h1 : Hp, h1 = wI h (rf h v0 14) (Int32.toNatClampNeg 0) v4 → X G M Q 96 [(0, .ref v0), (1, .int v1), (2, .int v2), (5, .int v1)] [] h1)))) ∧ (¬ v3 ≤ v5 → (kT h v0 = 10 ∧ kR h v0 14 = some (rf h v0 14) ∧ (kT h (rf h v0 14) = 50 ∧ vp_in v5 (kN h (rf h v0 14)) ∧ (∀ h6 : Hp, h6 = wI h (rf h v0 14) (Int32.toNatClampNeg v5) v4 → (kT h6 v0 = 10 ∧ kR h6 v0 13 = some (rf h6 v0 13) ∧ (kT h6 (rf h6 v0 13) = 50 ∧ vp_in v5 (kN h6 (rf h6 v0 13)) ∧ X G M Q 52 [(0, .ref v0), (1, .int v1), (2, .int v2), (3, .int v3), (4, .int (v4 + (kI h6 (rf h6 v0 13) (Int32.toNatClampNeg v5)))), (5, .int (v5 + 1))] [] h6))))))) : X G M Q 52 [(0, .ref v0), (1, .int v1), (2, .int v2), (3, .int v3), (4, .int v4), (5, .int v5)] [] h := by
  refine x_iload hM d_Ki_sortByGroup_52 5 rfl ?_
  refine x_iload_n hM d_Ki_sortByGroup_54 rfl 3 rfl ?_
  refine x_icmp_ge (tgt := 85) hM d_Ki_sortByGroup_55 (by decide) (fun q15 => ?_) (fun q15 => ?_)
  · replace F := F.1 q15
    refine x_aload_n hM d_Ki_sortByGroup_85 rfl 0 rfl ?_
    obtain ⟨c4, F⟩ := F
    obtain ⟨c5, F⟩ := F
    refine x_getr hG hM ck_Ki 14 (Nat.le_of_ble_eq_true rfl) rfl rfl w_339 rfl d_Ki_sortByGroup_86 c4 c5 ?_
    refine x_iconst (v := 0) hM d_Ki_sortByGroup_89 (by decide) ?_
    refine x_iload hM d_Ki_sortByGroup_90 4 rfl ?_
    obtain ⟨c2, F⟩ := F
    obtain ⟨c3, F⟩ := F
    obtain ⟨h1, eh1⟩ : ∃ z : Hp, z = wI h (rf h v0 14) (Int32.toNatClampNeg 0) v4 := ⟨_, rfl⟩
    replace F := F h1 eh1
    refine x_iastore hG hM d_Ki_sortByGroup_92 c2 c3 ?_
    rw [← eh1]
    clear eh1
    refine x_iload_n hM d_Ki_sortByGroup_93 rfl 1 rfl ?_
    refine x_istore (lv2 := [(5, .int v1), (0, .ref v0), (1, .int v1), (2, .int v2), (3, .int v3), (4, .int v4)]) hM d_Ki_sortByGroup_94 (Nat.le_of_ble_eq_true rfl) rfl ?_
    refine x_sub [1, 2, 3, 0] rfl ?_
    exact F
  · replace F := F.2 q15
    refine x_aload_n hM d_Ki_sortByGroup_58 rfl 0 rfl ?_
    obtain ⟨c13, F⟩ := F
    obtain ⟨c14, F⟩ := F
    refine x_getr hG hM ck_Ki 14 (Nat.le_of_ble_eq_true rfl) rfl rfl w_339 rfl d_Ki_sortByGroup_59 c13 c14 ?_
    refine x_iload hM d_Ki_sortByGroup_62 5 rfl ?_
    refine x_iload hM d_Ki_sortByGroup_64 4 rfl ?_
    obtain ⟨c11, F⟩ := F
    obtain ⟨c12, F⟩ := F
    obtain ⟨h6, eh6⟩ : ∃ z : Hp, z = wI h (rf h v0 14) (Int32.toNatClampNeg v5) v4 := ⟨_, rfl⟩
    replace F := F h6 eh6
    refine x_iastore hG hM d_Ki_sortByGroup_66 c11 c12 ?_
    rw [← eh6]
    clear eh6
    refine x_iload hM d_Ki_sortByGroup_67 4 rfl ?_
    refine x_aload_n hM d_Ki_sortByGroup_69 rfl 0 rfl ?_
    obtain ⟨c9, F⟩ := F
    obtain ⟨c10, F⟩ := F
    refine x_getr hG hM ck_Ki 13 (Nat.le_of_ble_eq_true rfl) rfl rfl w_338 rfl d_Ki_sortByGroup_70 c9 c10 ?_
    refine x_iload hM d_Ki_sortByGroup_73 5 rfl ?_
    obtain ⟨c7, F⟩ := F
    obtain ⟨c8, F⟩ := F
    refine x_iaload hG hM d_Ki_sortByGroup_75 c7 c8 ?_
    refine x_iadd hM d_Ki_sortByGroup_76 ?_
    refine x_istore (lv2 := [(4, .int (v4 + (kI h6 (rf h6 v0 13) (Int32.toNatClampNeg v5)))), (0, .ref v0), (1, .int v1), (2, .int v2), (3, .int v3), (5, .int v5)]) hM d_Ki_sortByGroup_77 (Nat.le_of_ble_eq_true rfl) rfl ?_
    refine x_iinc (v := (v5 + 1)) (lv2 := [(5, .int (v5 + 1)), (4, .int (v4 + (kI h6 (rf h6 v0 13) (Int32.toNatClampNeg v5)))), (0, .ref v0), (1, .int v1), (2, .int v2), (3, .int v3)]) hM d_Ki_sortByGroup_79 (j := 5) rfl rfl (Nat.le_of_ble_eq_true rfl) rfl ?_
    refine x_goto (tgt := 52) hM d_Ki_sortByGroup_82 (by decide) ?_
    refine x_sub [2, 3, 4, 5, 1, 0] rfl ?_
    exact F
set_option maxRecDepth 100000 in
set_option maxHeartbeats 4000000 in
theorem S_Ki_sortByGroup_96 {G : Gc} {M : Mc} {Q : State → Prop} {K : Option Value → Hp → Prop} (hG : gok G) (hM : mok G M r_Ki_sortByGroup Q K) (v0 : Nat) (v1 : Int32) (v2 : Int32) (v5 : Int32) (h : Hp) (F : (v2 ≤ v5 → X G M Q 155 [(0, .ref v0), (2, .int v2), (5, .int v1)] [] h) ∧ (¬ v2 ≤ v5 → (kT h v0 = 10 ∧ kR h v0 12 = some (rf h v0 12) ∧ (kT h v0 = 10 ∧ kR h v0 4 = some (rf h v0 4) ∧ (kT h (rf h v0 4) = 50 ∧ vp_in v5 (kN h (rf h v0 4)) ∧ (kT h (rf h v0 12) = 50 ∧ vp_in (kI h (rf h v0 4) (Int32.toNatClampNeg v5)) (kN h (rf h v0 12)) ∧ (kT h v0 = 10 ∧ kR h v0 15 = some (rf h v0 15) ∧ (kT h v0 = 10 ∧ kR h v0 14 = some (rf h v0 14) ∧ (kT h (rf h v0 14) = 50 ∧ vp_in (kI h (rf h v0 12) (Int32.toNatClampNeg (kI h (rf h v0 4) (Int32.toNatClampNeg v5)))) (kN h (rf h v0 14)) ∧ (kT h v0 = 10 ∧ kR h v0 4 = some (rf h v0 4) ∧ (kT h (rf h v0 4) = 50 ∧ vp_in v5 (kN h (rf h v0 4)) ∧ (kT h (rf h v0 15) = 50 ∧ vp_in (kI h (rf h v0 14) (Int32.toNatClampNeg (kI h (rf h v0 12) (Int32.toNatClampNeg (kI h (rf h v0 4) (Int32.toNatClampNeg v5)))))) (kN h (rf h v0 15)) ∧ (∀ h1 : Hp, h1 = wI h (rf h v0 15) (Int32.toNatClampNeg (kI h (rf h v0 14) (Int32.toNatClampNeg (kI h (rf h v0 12) (Int32.toNatClampNeg (kI h (rf h v0 4) (Int32.toNatClampNeg v5))))))) (kI h (rf h v0 4) (Int32.toNatClampNeg v5)) → (kT h1 v0 = 10 ∧ kR h1 v0 14 = some (rf h1 v0 14) ∧ (kT h1 (rf h1 v0 14) = 50 ∧ vp_in (kI h (rf h v0 12) (Int32.toNatClampNeg (kI h (rf h v0 4) (Int32.toNatClampNeg v5)))) (kN h1 (rf h1 v0 14)) ∧ (kT h1 (rf h1 v0 14) = 50 ∧ vp_in (kI h (rf h v0 12) (Int32.toNatClampNeg (kI h (rf h v0 4) (Int32.toNatClampNeg v5)))) (kN h1 (rf h1 v0 14)) ∧ (∀ h2 : Hp, h2 = wI h1 (rf h1 v0 14) (Int32.toNatClampNeg (kI h (rf h v0 12) (Int32.toNatClampNeg (kI h (rf h v0 4) (Int32.toNatClampNeg v5))))) ((kI h1 (rf h1 v0 14) (Int32.toNatClampNeg (kI h (rf h v0 12) (Int32.toNatClampNeg (kI h (rf h v0 4) (Int32.toNatClampNeg v5)))))) + 1) → X G M Q 96 [(0, .ref v0), (1, .int v1), (2, .int v2), (5, .int (v5 + 1))] [] h2))))))))))))))))) : X G M Q 96 [(0, .ref v0), (1, .int v1), (2, .int v2), (5, .int v5)] [] h := by
  refine x_iload hM d_Ki_sortByGroup_96 3 rfl ?_
  refine x_iload_n hM d_Ki_sortByGroup_98 rfl 2 rfl ?_
  refine x_icmp_ge (tgt := 152) hM d_Ki_sortByGroup_99 (by decide) (fun q29 => ?_) (fun q29 => ?_)
  · replace F := F.1 q29
    refine x_iload_n hM d_Ki_sortByGroup_152 rfl 1 rfl ?_
    refine x_istore (lv2 := [(5, .int v1), (0, .ref v0), (1, .int v1), (2, .int v2)]) hM d_Ki_sortByGroup_153 (Nat.le_of_ble_eq_true rfl) rfl ?_
    refine x_sub [1, 3, 0] rfl ?_
    exact F
  · replace F := F.2 q29
    refine x_aload_n hM d_Ki_sortByGroup_102 rfl 0 rfl ?_
    obtain ⟨c27, F⟩ := F
    obtain ⟨c28, F⟩ := F
    refine x_getr hG hM ck_Ki 12 (Nat.le_of_ble_eq_true rfl) rfl rfl w_337 rfl d_Ki_sortByGroup_103 c27 c28 ?_
    refine x_aload_n hM d_Ki_sortByGroup_106 rfl 0 rfl ?_
    obtain ⟨c25, F⟩ := F
    obtain ⟨c26, F⟩ := F
    refine x_getr hG hM ck_Ki 4 (Nat.le_of_ble_eq_true rfl) rfl rfl w_329 rfl d_Ki_sortByGroup_107 c25 c26 ?_
    refine x_iload hM d_Ki_sortByGroup_110 3 rfl ?_
    obtain ⟨c23, F⟩ := F
    obtain ⟨c24, F⟩ := F
    refine x_iaload hG hM d_Ki_sortByGroup_112 c23 c24 ?_
    obtain ⟨c21, F⟩ := F
    obtain ⟨c22, F⟩ := F
    refine x_iaload hG hM d_Ki_sortByGroup_113 c21 c22 ?_
    refine x_istore (lv2 := [(6, .int (kI h (rf h v0 12) (Int32.toNatClampNeg (kI h (rf h v0 4) (Int32.toNatClampNeg v5))))), (0, .ref v0), (1, .int v1), (2, .int v2), (5, .int v5)]) hM d_Ki_sortByGroup_114 (Nat.le_of_ble_eq_true rfl) rfl ?_
    refine x_aload_n hM d_Ki_sortByGroup_116 rfl 1 rfl ?_
    obtain ⟨c19, F⟩ := F
    obtain ⟨c20, F⟩ := F
    refine x_getr hG hM ck_Ki 15 (Nat.le_of_ble_eq_true rfl) rfl rfl w_340 rfl d_Ki_sortByGroup_117 c19 c20 ?_
    refine x_aload_n hM d_Ki_sortByGroup_120 rfl 1 rfl ?_
    obtain ⟨c17, F⟩ := F
    obtain ⟨c18, F⟩ := F
    refine x_getr hG hM ck_Ki 14 (Nat.le_of_ble_eq_true rfl) rfl rfl w_339 rfl d_Ki_sortByGroup_121 c17 c18 ?_
    refine x_iload hM d_Ki_sortByGroup_124 0 rfl ?_
    obtain ⟨c15, F⟩ := F
    obtain ⟨c16, F⟩ := F
    refine x_iaload hG hM d_Ki_sortByGroup_126 c15 c16 ?_
    refine x_aload_n hM d_Ki_sortByGroup_127 rfl 1 rfl ?_
    obtain ⟨c13, F⟩ := F
    obtain ⟨c14, F⟩ := F
    refine x_getr hG hM ck_Ki 4 (Nat.le_of_ble_eq_true rfl) rfl rfl w_329 rfl d_Ki_sortByGroup_128 c13 c14 ?_
    refine x_iload hM d_Ki_sortByGroup_131 4 rfl ?_
    obtain ⟨c11, F⟩ := F
    obtain ⟨c12, F⟩ := F
    refine x_iaload hG hM d_Ki_sortByGroup_133 c11 c12 ?_
    obtain ⟨c9, F⟩ := F
    obtain ⟨c10, F⟩ := F
    obtain ⟨h1, eh1⟩ : ∃ z : Hp, z = wI h (rf h v0 15) (Int32.toNatClampNeg (kI h (rf h v0 14) (Int32.toNatClampNeg (kI h (rf h v0 12) (Int32.toNatClampNeg (kI h (rf h v0 4) (Int32.toNatClampNeg v5))))))) (kI h (rf h v0 4) (Int32.toNatClampNeg v5)) := ⟨_, rfl⟩
    replace F := F h1 eh1
    refine x_iastore hG hM d_Ki_sortByGroup_134 c9 c10 ?_
    rw [← eh1]
    clear eh1
    refine x_aload_n hM d_Ki_sortByGroup_135 rfl 1 rfl ?_
    obtain ⟨c7, F⟩ := F
    obtain ⟨c8, F⟩ := F
    refine x_getr hG hM ck_Ki 14 (Nat.le_of_ble_eq_true rfl) rfl rfl w_339 rfl d_Ki_sortByGroup_136 c7 c8 ?_
    refine x_iload hM d_Ki_sortByGroup_139 0 rfl ?_
    refine x_dup2 hM d_Ki_sortByGroup_141 rfl rfl ?_
    obtain ⟨c5, F⟩ := F
    obtain ⟨c6, F⟩ := F
    refine x_iaload hG hM d_Ki_sortByGroup_142 c5 c6 ?_
    refine x_iconst (v := 1) hM d_Ki_sortByGroup_143 (by decide) ?_
    refine x_iadd hM d_Ki_sortByGroup_144 ?_
    obtain ⟨c3, F⟩ := F
    obtain ⟨c4, F⟩ := F
    obtain ⟨h2, eh2⟩ : ∃ z : Hp, z = wI h1 (rf h1 v0 14) (Int32.toNatClampNeg (kI h (rf h v0 12) (Int32.toNatClampNeg (kI h (rf h v0 4) (Int32.toNatClampNeg v5))))) ((kI h1 (rf h1 v0 14) (Int32.toNatClampNeg (kI h (rf h v0 12) (Int32.toNatClampNeg (kI h (rf h v0 4) (Int32.toNatClampNeg v5)))))) + 1) := ⟨_, rfl⟩
    replace F := F h2 eh2
    refine x_iastore hG hM d_Ki_sortByGroup_145 c3 c4 ?_
    rw [← eh2]
    clear eh2
    refine x_iinc (v := (v5 + 1)) (lv2 := [(5, .int (v5 + 1)), (6, .int (kI h (rf h v0 12) (Int32.toNatClampNeg (kI h (rf h v0 4) (Int32.toNatClampNeg v5))))), (0, .ref v0), (1, .int v1), (2, .int v2)]) hM d_Ki_sortByGroup_146 (j := 4) rfl rfl (Nat.le_of_ble_eq_true rfl) rfl ?_
    refine x_goto (tgt := 96) hM d_Ki_sortByGroup_149 (by decide) ?_
    refine x_sub [2, 3, 4, 0] rfl ?_
    exact F
set_option maxRecDepth 100000 in
set_option maxHeartbeats 4000000 in
theorem S_Ki_sortByGroup_155 {G : Gc} {M : Mc} {Q : State → Prop} {K : Option Value → Hp → Prop} (hG : gok G) (hM : mok G M r_Ki_sortByGroup Q K) (v0 : Nat) (v2 : Int32) (v5 : Int32) (h : Hp) (F : (v2 ≤ v5 → K none h) ∧ (¬ v2 ≤ v5 → (kT h v0 = 10 ∧ kR h v0 4 = some (rf h v0 4) ∧ (kT h v0 = 10 ∧ kR h v0 15 = some (rf h v0 15) ∧ (kT h (rf h v0 15) = 50 ∧ vp_in v5 (kN h (rf h v0 15)) ∧ (kT h (rf h v0 4) = 50 ∧ vp_in v5 (kN h (rf h v0 4)) ∧ (∀ h1 : Hp, h1 = wI h (rf h v0 4) (Int32.toNatClampNeg v5) (kI h (rf h v0 15) (Int32.toNatClampNeg v5)) → (kT h1 v0 = 10 ∧ kR h1 v0 5 = some (rf h1 v0 5) ∧ (kT h1 v0 = 10 ∧ kR h1 v0 4 = some (rf h1 v0 4) ∧ (kT h1 (rf h1 v0 4) = 50 ∧ vp_in v5 (kN h1 (rf h1 v0 4)) ∧ (kT h1 (rf h1 v0 5) = 50 ∧ vp_in (kI h1 (rf h1 v0 4) (Int32.toNatClampNeg v5)) (kN h1 (rf h1 v0 5)) ∧ (∀ h2 : Hp, h2 = wI h1 (rf h1 v0 5) (Int32.toNatClampNeg (kI h1 (rf h1 v0 4) (Int32.toNatClampNeg v5))) v5 → X G M Q 155 [(0, .ref v0), (2, .int v2), (5, .int (v5 + 1))] [] h2)))))))))))) : X G M Q 155 [(0, .ref v0), (2, .int v2), (5, .int v5)] [] h := by
  refine x_iload hM d_Ki_sortByGroup_155 2 rfl ?_
  refine x_iload_n hM d_Ki_sortByGroup_157 rfl 1 rfl ?_
  refine x_icmp_ge (tgt := 195) hM d_Ki_sortByGroup_158 (by decide) (fun q19 => ?_) (fun q19 => ?_)
  · replace F := F.1 q19
    exact x_return hM d_Ki_sortByGroup_195 rfl F
  · replace F := F.2 q19
    refine x_aload_n hM d_Ki_sortByGroup_161 rfl 0 rfl ?_
    obtain ⟨c17, F⟩ := F
    obtain ⟨c18, F⟩ := F
    refine x_getr hG hM ck_Ki 4 (Nat.le_of_ble_eq_true rfl) rfl rfl w_329 rfl d_Ki_sortByGroup_162 c17 c18 ?_
    refine x_iload hM d_Ki_sortByGroup_165 2 rfl ?_
    refine x_aload_n hM d_Ki_sortByGroup_167 rfl 0 rfl ?_
    obtain ⟨c15, F⟩ := F
    obtain ⟨c16, F⟩ := F
    refine x_getr hG hM ck_Ki 15 (Nat.le_of_ble_eq_true rfl) rfl rfl w_340 rfl d_Ki_sortByGroup_168 c15 c16 ?_
    refine x_iload hM d_Ki_sortByGroup_171 2 rfl ?_
    obtain ⟨c13, F⟩ := F
    obtain ⟨c14, F⟩ := F
    refine x_iaload hG hM d_Ki_sortByGroup_173 c13 c14 ?_
    obtain ⟨c11, F⟩ := F
    obtain ⟨c12, F⟩ := F
    obtain ⟨h1, eh1⟩ : ∃ z : Hp, z = wI h (rf h v0 4) (Int32.toNatClampNeg v5) (kI h (rf h v0 15) (Int32.toNatClampNeg v5)) := ⟨_, rfl⟩
    replace F := F h1 eh1
    refine x_iastore hG hM d_Ki_sortByGroup_174 c11 c12 ?_
    rw [← eh1]
    clear eh1
    refine x_aload_n hM d_Ki_sortByGroup_175 rfl 0 rfl ?_
    obtain ⟨c9, F⟩ := F
    obtain ⟨c10, F⟩ := F
    refine x_getr hG hM ck_Ki 5 (Nat.le_of_ble_eq_true rfl) rfl rfl w_330 rfl d_Ki_sortByGroup_176 c9 c10 ?_
    refine x_aload_n hM d_Ki_sortByGroup_179 rfl 0 rfl ?_
    obtain ⟨c7, F⟩ := F
    obtain ⟨c8, F⟩ := F
    refine x_getr hG hM ck_Ki 4 (Nat.le_of_ble_eq_true rfl) rfl rfl w_329 rfl d_Ki_sortByGroup_180 c7 c8 ?_
    refine x_iload hM d_Ki_sortByGroup_183 2 rfl ?_
    obtain ⟨c5, F⟩ := F
    obtain ⟨c6, F⟩ := F
    refine x_iaload hG hM d_Ki_sortByGroup_185 c5 c6 ?_
    refine x_iload hM d_Ki_sortByGroup_186 2 rfl ?_
    obtain ⟨c3, F⟩ := F
    obtain ⟨c4, F⟩ := F
    obtain ⟨h2, eh2⟩ : ∃ z : Hp, z = wI h1 (rf h1 v0 5) (Int32.toNatClampNeg (kI h1 (rf h1 v0 4) (Int32.toNatClampNeg v5))) v5 := ⟨_, rfl⟩
    replace F := F h2 eh2
    refine x_iastore hG hM d_Ki_sortByGroup_188 c3 c4 ?_
    rw [← eh2]
    clear eh2
    refine x_iinc (v := (v5 + 1)) (lv2 := [(5, .int (v5 + 1)), (0, .ref v0), (2, .int v2)]) hM d_Ki_sortByGroup_189 (j := 2) rfl rfl (Nat.le_of_ble_eq_true rfl) rfl ?_
    refine x_goto (tgt := 155) hM d_Ki_sortByGroup_192 (by decide) ?_
    refine x_sub [1, 2, 0] rfl ?_
    exact F
theorem d_Ki_divide_0 : decode b_Ki_divide 0 = .ok (.aload_n 0, 1) := by decide +kernel
theorem d_Ki_divide_1 : decode b_Ki_divide 1 = .ok (.getfield 35, 3) := by decide +kernel
theorem d_Ki_divide_4 : decode b_Ki_divide 4 = .ok (.iload_n 2, 1) := by decide +kernel
theorem d_Ki_divide_5 : decode b_Ki_divide 5 = .ok (.iaload, 1) := by decide +kernel
theorem d_Ki_divide_6 : decode b_Ki_divide 6 = .ok (.istore 5, 2) := by decide +kernel
theorem d_Ki_divide_8 : decode b_Ki_divide 8 = .ok (.aload_n 0, 1) := by decide +kernel
theorem d_Ki_divide_9 : decode b_Ki_divide 9 = .ok (.getfield 53, 3) := by decide +kernel
theorem d_Ki_divide_12 : decode b_Ki_divide 12 = .ok (.iconst 0, 1) := by decide +kernel
theorem d_Ki_divide_13 : decode b_Ki_divide 13 = .ok (.dup2, 1) := by decide +kernel
theorem d_Ki_divide_14 : decode b_Ki_divide 14 = .ok (.iaload, 1) := by decide +kernel
theorem d_Ki_divide_15 : decode b_Ki_divide 15 = .ok (.iload 5, 2) := by decide +kernel
theorem d_Ki_divide_17 : decode b_Ki_divide 17 = .ok (.iload_n 3, 1) := by decide +kernel
theorem d_Ki_divide_18 : decode b_Ki_divide 18 = .ok (.isub, 1) := by decide +kernel
theorem d_Ki_divide_19 : decode b_Ki_divide 19 = .ok (.iadd, 1) := by decide +kernel
theorem d_Ki_divide_20 : decode b_Ki_divide 20 = .ok (.iastore, 1) := by decide +kernel
theorem d_Ki_divide_21 : decode b_Ki_divide 21 = .ok (.aload_n 0, 1) := by decide +kernel
theorem d_Ki_divide_22 : decode b_Ki_divide 22 = .ok (.getfield 56, 3) := by decide +kernel
theorem d_Ki_divide_25 : decode b_Ki_divide 25 = .ok (.iconst 0, 1) := by decide +kernel
theorem d_Ki_divide_26 : decode b_Ki_divide 26 = .ok (.iload 5, 2) := by decide +kernel
theorem d_Ki_divide_28 : decode b_Ki_divide 28 = .ok (.iastore, 1) := by decide +kernel
theorem d_Ki_divide_29 : decode b_Ki_divide 29 = .ok (.iconst 0, 1) := by decide +kernel
theorem d_Ki_divide_30 : decode b_Ki_divide 30 = .ok (.istore 6, 2) := by decide +kernel
theorem d_Ki_divide_32 : decode b_Ki_divide 32 = .ok (.iconst 1, 1) := by decide +kernel
theorem d_Ki_divide_33 : decode b_Ki_divide 33 = .ok (.istore 7, 2) := by decide +kernel
theorem d_Ki_divide_35 : decode b_Ki_divide 35 = .ok (.iload 7, 2) := by decide +kernel
theorem d_Ki_divide_37 : decode b_Ki_divide 37 = .ok (.iload 4, 2) := by decide +kernel
theorem d_Ki_divide_39 : decode b_Ki_divide 39 = .ok (.if_icmp .ge 30, 3) := by decide +kernel
theorem d_Ki_divide_42 : decode b_Ki_divide 42 = .ok (.aload_n 0, 1) := by decide +kernel
theorem d_Ki_divide_43 : decode b_Ki_divide 43 = .ok (.getfield 53, 3) := by decide +kernel
theorem d_Ki_divide_46 : decode b_Ki_divide 46 = .ok (.iload 7, 2) := by decide +kernel
theorem d_Ki_divide_48 : decode b_Ki_divide 48 = .ok (.iaload, 1) := by decide +kernel
theorem d_Ki_divide_49 : decode b_Ki_divide 49 = .ok (.aload_n 0, 1) := by decide +kernel
theorem d_Ki_divide_50 : decode b_Ki_divide 50 = .ok (.getfield 53, 3) := by decide +kernel
theorem d_Ki_divide_53 : decode b_Ki_divide 53 = .ok (.iload 6, 2) := by decide +kernel
theorem d_Ki_divide_55 : decode b_Ki_divide 55 = .ok (.iaload, 1) := by decide +kernel
theorem d_Ki_divide_56 : decode b_Ki_divide 56 = .ok (.if_icmp .le 7, 3) := by decide +kernel
theorem d_Ki_divide_59 : decode b_Ki_divide 59 = .ok (.iload 7, 2) := by decide +kernel
theorem d_Ki_divide_61 : decode b_Ki_divide 61 = .ok (.istore 6, 2) := by decide +kernel
theorem d_Ki_divide_63 : decode b_Ki_divide 63 = .ok (.iinc 7 1, 3) := by decide +kernel
theorem d_Ki_divide_66 : decode b_Ki_divide 66 = .ok (.goto (-31), 3) := by decide +kernel
theorem d_Ki_divide_69 : decode b_Ki_divide 69 = .ok (.iload 6, 2) := by decide +kernel
theorem d_Ki_divide_71 : decode b_Ki_divide 71 = .ok (.ifCond .eq 20, 3) := by decide +kernel
theorem d_Ki_divide_74 : decode b_Ki_divide 74 = .ok (.aload_n 0, 1) := by decide +kernel
theorem d_Ki_divide_75 : decode b_Ki_divide 75 = .ok (.getfield 26, 3) := by decide +kernel
theorem d_Ki_divide_78 : decode b_Ki_divide 78 = .ok (.iload_n 3, 1) := by decide +kernel
theorem d_Ki_divide_79 : decode b_Ki_divide 79 = .ok (.aload_n 0, 1) := by decide +kernel
theorem d_Ki_divide_80 : decode b_Ki_divide 80 = .ok (.getfield 59, 3) := by decide +kernel
theorem d_Ki_divide_83 : decode b_Ki_divide 83 = .ok (.iload_n 3, 1) := by decide +kernel
theorem d_Ki_divide_84 : decode b_Ki_divide 84 = .ok (.iload 5, 2) := by decide +kernel
theorem d_Ki_divide_86 : decode b_Ki_divide 86 = .ok (.iload_n 3, 1) := by decide +kernel
theorem d_Ki_divide_87 : decode b_Ki_divide 87 = .ok (.isub, 1) := by decide +kernel
theorem d_Ki_divide_88 : decode b_Ki_divide 88 = .ok (.invokestatic 159, 3) := by decide +kernel
theorem d_Ki_divide_91 : decode b_Ki_divide 91 = .ok (.aload_n 0, 1) := by decide +kernel
theorem d_Ki_divide_92 : decode b_Ki_divide 92 = .ok (.getfield 9, 3) := by decide +kernel
theorem d_Ki_divide_95 : decode b_Ki_divide 95 = .ok (.istore 7, 2) := by decide +kernel
theorem d_Ki_divide_97 : decode b_Ki_divide 97 = .ok (.iconst 0, 1) := by decide +kernel
theorem d_Ki_divide_98 : decode b_Ki_divide 98 = .ok (.istore 8, 2) := by decide +kernel
theorem d_Ki_divide_100 : decode b_Ki_divide 100 = .ok (.iload 8, 2) := by decide +kernel
theorem d_Ki_divide_102 : decode b_Ki_divide 102 = .ok (.iload 4, 2) := by decide +kernel
theorem d_Ki_divide_104 : decode b_Ki_divide 104 = .ok (.if_icmp .ge 43, 3) := by decide +kernel
theorem d_Ki_divide_107 : decode b_Ki_divide 107 = .ok (.iload 8, 2) := by decide +kernel
theorem d_Ki_divide_109 : decode b_Ki_divide 109 = .ok (.iload 6, 2) := by decide +kernel
theorem d_Ki_divide_111 : decode b_Ki_divide 111 = .ok (.if_icmp .eq 30, 3) := by decide +kernel
theorem d_Ki_divide_114 : decode b_Ki_divide 114 = .ok (.aload_n 0, 1) := by decide +kernel
theorem d_Ki_divide_115 : decode b_Ki_divide 115 = .ok (.aload_n 0, 1) := by decide +kernel
theorem d_Ki_divide_116 : decode b_Ki_divide 116 = .ok (.getfield 56, 3) := by decide +kernel
theorem d_Ki_divide_119 : decode b_Ki_divide 119 = .ok (.iload 8, 2) := by decide +kernel
theorem d_Ki_divide_121 : decode b_Ki_divide 121 = .ok (.iaload, 1) := by decide +kernel
theorem d_Ki_divide_122 : decode b_Ki_divide 122 = .ok (.aload_n 0, 1) := by decide +kernel
theorem d_Ki_divide_123 : decode b_Ki_divide 123 = .ok (.getfield 53, 3) := by decide +kernel
theorem d_Ki_divide_126 : decode b_Ki_divide 126 = .ok (.iload 8, 2) := by decide +kernel
theorem d_Ki_divide_128 : decode b_Ki_divide 128 = .ok (.iaload, 1) := by decide +kernel
theorem d_Ki_divide_129 : decode b_Ki_divide 129 = .ok (.isub, 1) := by decide +kernel
theorem d_Ki_divide_130 : decode b_Ki_divide 130 = .ok (.aload_n 0, 1) := by decide +kernel
theorem d_Ki_divide_131 : decode b_Ki_divide 131 = .ok (.getfield 56, 3) := by decide +kernel
theorem d_Ki_divide_134 : decode b_Ki_divide 134 = .ok (.iload 8, 2) := by decide +kernel
theorem d_Ki_divide_136 : decode b_Ki_divide 136 = .ok (.iaload, 1) := by decide +kernel
theorem d_Ki_divide_137 : decode b_Ki_divide 137 = .ok (.invokevirtual 97, 3) := by decide +kernel
theorem d_Ki_divide_140 : decode b_Ki_divide 140 = .ok (.pop, 1) := by decide +kernel
theorem d_Ki_divide_141 : decode b_Ki_divide 141 = .ok (.iinc 8 1, 3) := by decide +kernel
theorem d_Ki_divide_144 : decode b_Ki_divide 144 = .ok (.goto (-44), 3) := by decide +kernel
theorem d_Ki_divide_147 : decode b_Ki_divide 147 = .ok (.aload_n 0, 1) := by decide +kernel
theorem d_Ki_divide_148 : decode b_Ki_divide 148 = .ok (.getfield 32, 3) := by decide +kernel
theorem d_Ki_divide_151 : decode b_Ki_divide 151 = .ok (.iload_n 2, 1) := by decide +kernel
theorem d_Ki_divide_152 : decode b_Ki_divide 152 = .ok (.aload_n 0, 1) := by decide +kernel
theorem d_Ki_divide_153 : decode b_Ki_divide 153 = .ok (.getfield 56, 3) := by decide +kernel
theorem d_Ki_divide_156 : decode b_Ki_divide 156 = .ok (.iload 6, 2) := by decide +kernel
theorem d_Ki_divide_158 : decode b_Ki_divide 158 = .ok (.iaload, 1) := by decide +kernel
theorem d_Ki_divide_159 : decode b_Ki_divide 159 = .ok (.aload_n 0, 1) := by decide +kernel
theorem d_Ki_divide_160 : decode b_Ki_divide 160 = .ok (.getfield 53, 3) := by decide +kernel
theorem d_Ki_divide_163 : decode b_Ki_divide 163 = .ok (.iload 6, 2) := by decide +kernel
theorem d_Ki_divide_165 : decode b_Ki_divide 165 = .ok (.iaload, 1) := by decide +kernel
theorem d_Ki_divide_166 : decode b_Ki_divide 166 = .ok (.isub, 1) := by decide +kernel
theorem d_Ki_divide_167 : decode b_Ki_divide 167 = .ok (.iastore, 1) := by decide +kernel
theorem d_Ki_divide_168 : decode b_Ki_divide 168 = .ok (.aload_n 0, 1) := by decide +kernel
theorem d_Ki_divide_169 : decode b_Ki_divide 169 = .ok (.getfield 35, 3) := by decide +kernel
theorem d_Ki_divide_172 : decode b_Ki_divide 172 = .ok (.iload_n 2, 1) := by decide +kernel
theorem d_Ki_divide_173 : decode b_Ki_divide 173 = .ok (.aload_n 0, 1) := by decide +kernel
theorem d_Ki_divide_174 : decode b_Ki_divide 174 = .ok (.getfield 56, 3) := by decide +kernel
theorem d_Ki_divide_177 : decode b_Ki_divide 177 = .ok (.iload 6, 2) := by decide +kernel
theorem d_Ki_divide_179 : decode b_Ki_divide 179 = .ok (.iaload, 1) := by decide +kernel
theorem d_Ki_divide_180 : decode b_Ki_divide 180 = .ok (.iastore, 1) := by decide +kernel
theorem d_Ki_divide_181 : decode b_Ki_divide 181 = .ok (.iload 7, 2) := by decide +kernel
theorem d_Ki_divide_183 : decode b_Ki_divide 183 = .ok (.istore 8, 2) := by decide +kernel
theorem d_Ki_divide_185 : decode b_Ki_divide 185 = .ok (.iload 8, 2) := by decide +kernel
theorem d_Ki_divide_187 : decode b_Ki_divide 187 = .ok (.aload_n 0, 1) := by decide +kernel
theorem d_Ki_divide_188 : decode b_Ki_divide 188 = .ok (.getfield 9, 3) := by decide +kernel
theorem d_Ki_divide_191 : decode b_Ki_divide 191 = .ok (.if_icmp .ge 48, 3) := by decide +kernel
theorem d_Ki_divide_194 : decode b_Ki_divide 194 = .ok (.aload_n 0, 1) := by decide +kernel
theorem d_Ki_divide_195 : decode b_Ki_divide 195 = .ok (.getfield 32, 3) := by decide +kernel
theorem d_Ki_divide_198 : decode b_Ki_divide 198 = .ok (.iload 8, 2) := by decide +kernel
theorem d_Ki_divide_200 : decode b_Ki_divide 200 = .ok (.iaload, 1) := by decide +kernel
theorem d_Ki_divide_201 : decode b_Ki_divide 201 = .ok (.istore 9, 2) := by decide +kernel
theorem d_Ki_divide_203 : decode b_Ki_divide 203 = .ok (.iload 9, 2) := by decide +kernel
theorem d_Ki_divide_205 : decode b_Ki_divide 205 = .ok (.aload_n 0, 1) := by decide +kernel
theorem d_Ki_divide_206 : decode b_Ki_divide 206 = .ok (.getfield 35, 3) := by decide +kernel
theorem d_Ki_divide_209 : decode b_Ki_divide 209 = .ok (.iload 8, 2) := by decide +kernel
theorem d_Ki_divide_211 : decode b_Ki_divide 211 = .ok (.iaload, 1) := by decide +kernel
theorem d_Ki_divide_212 : decode b_Ki_divide 212 = .ok (.if_icmp .ge 21, 3) := by decide +kernel
theorem d_Ki_divide_215 : decode b_Ki_divide 215 = .ok (.aload_n 0, 1) := by decide +kernel
theorem d_Ki_divide_216 : decode b_Ki_divide 216 = .ok (.aload_n 1, 1) := by decide +kernel
theorem d_Ki_divide_217 : decode b_Ki_divide 217 = .ok (.aload_n 0, 1) := by decide +kernel
theorem d_Ki_divide_218 : decode b_Ki_divide 218 = .ok (.getfield 59, 3) := by decide +kernel
theorem d_Ki_divide_221 : decode b_Ki_divide 221 = .ok (.iload 9, 2) := by decide +kernel
theorem d_Ki_divide_223 : decode b_Ki_divide 223 = .ok (.iaload, 1) := by decide +kernel
theorem d_Ki_divide_224 : decode b_Ki_divide 224 = .ok (.invokevirtual 165, 3) := by decide +kernel
theorem d_Ki_divide_227 : decode b_Ki_divide 227 = .ok (.iinc 9 1, 3) := by decide +kernel
theorem d_Ki_divide_230 : decode b_Ki_divide 230 = .ok (.goto (-27), 3) := by decide +kernel
theorem d_Ki_divide_233 : decode b_Ki_divide 233 = .ok (.iinc 8 1, 3) := by decide +kernel
theorem d_Ki_divide_236 : decode b_Ki_divide 236 = .ok (.goto (-51), 3) := by decide +kernel
theorem d_Ki_divide_239 : decode b_Ki_divide 239 = .ok (.return_, 1) := by decide +kernel
set_option maxRecDepth 100000 in
set_option maxHeartbeats 4000000 in
theorem S_Ki_divide_0 {G : Gc} {M : Mc} {Q : State → Prop} {K : Option Value → Hp → Prop} (hG : gok G) (hM : mok G M r_Ki_divide Q K) (v0 : Nat) (v1 : Nat) (v2 : Int32) (v3 : Int32) (v4 : Int32) (h : Hp) (F : kT h v0 = 10 ∧ kR h v0 7 = some (rf h v0 7) ∧ (kT h (rf h v0 7) = 50 ∧ vp_in v2 (kN h (rf h v0 7)) ∧ (kT h v0 = 10 ∧ kR h v0 13 = some (rf h v0 13) ∧ (kT h (rf h v0 13) = 50 ∧ vp_in 0 (kN h (rf h v0 13)) ∧ (kT h (rf h v0 13) = 50 ∧ vp_in 0 (kN h (rf h v0 13)) ∧ (∀ h1 : Hp, h1 = wI h (rf h v0 13) (Int32.toNatClampNeg 0) ((kI h (rf h v0 13) (Int32.toNatClampNeg 0)) + ((kI h (rf h v0 7) (Int32.toNatClampNeg v2)) - v3)) → (kT h1 v0 = 10 ∧ kR h1 v0 14 = some (rf h1 v0 14) ∧ (kT h1 (rf h1 v0 14) = 50 ∧ vp_in 0 (kN h1 (rf h1 v0 14)) ∧ (∀ h2 : Hp, h2 = wI h1 (rf h1 v0 14) (Int32.toNatClampNeg 0) (kI h (rf h v0 7) (Int32.toNatClampNeg v2)) → X G M Q 35 [(0, .ref v0), (1, .ref v1), (2, .int v2), (3, .int v3), (4, .int v4), (5, .int (kI h (rf h v0 7) (Int32.toNatClampNeg v2))), (6, .int 0), (7, .int 1)] [] h2))))))))) : X G M Q 0 [(0, .ref v0), (1, .ref v1), (2, .int v2), (3, .int v3), (4, .int v4)] [] h := by
  refine x_aload_n hM d_Ki_divide_0 rfl 0 rfl ?_
  obtain ⟨c15, F⟩ := F
  obtain ⟨c16, F⟩ := F
  refine x_getr hG hM ck_Ki 7 (Nat.le_of_ble_eq_true rfl) rfl rfl w_332 rfl d_Ki_divide_1 c15 c16 ?_
  refine x_iload_n hM d_Ki_divide_4 rfl 2 rfl ?_
  obtain ⟨c13, F⟩ := F
  obtain ⟨c14, F⟩ := F
  refine x_iaload hG hM d_Ki_divide_5 c13 c14 ?_
  refine x_istore (lv2 := [(5, .int (kI h (rf h v0 7) (Int32.toNatClampNeg v2))), (0, .ref v0), (1, .ref v1), (2, .int v2), (3, .int v3), (4, .int v4)]) hM d_Ki_divide_6 (Nat.le_of_ble_eq_true rfl) rfl ?_
  refine x_aload_n hM d_Ki_divide_8 rfl 1 rfl ?_
  obtain ⟨c11, F⟩ := F
  obtain ⟨c12, F⟩ := F
  refine x_getr hG hM ck_Ki 13 (Nat.le_of_ble_eq_true rfl) rfl rfl w_338 rfl d_Ki_divide_9 c11 c12 ?_
  refine x_iconst (v := 0) hM d_Ki_divide_12 (by decide) ?_
  refine x_dup2 hM d_Ki_divide_13 rfl rfl ?_
  obtain ⟨c9, F⟩ := F
  obtain ⟨c10, F⟩ := F
  refine x_iaload hG hM d_Ki_divide_14 c9 c10 ?_
  refine x_iload hM d_Ki_divide_15 0 rfl ?_
  refine x_iload_n hM d_Ki_divide_17 rfl 4 rfl ?_
  refine x_isub hM d_Ki_divide_18 ?_
  refine x_iadd hM d_Ki_divide_19 ?_
  obtain ⟨c7, F⟩ := F
  obtain ⟨c8, F⟩ := F
  obtain ⟨h1, eh1⟩ : ∃ z : Hp, z = wI h (rf h v0 13) (Int32.toNatClampNeg 0) ((kI h (rf h v0 13) (Int32.toNatClampNeg 0)) + ((kI h (rf h v0 7) (Int32.toNatClampNeg v2)) - v3)) := ⟨_, rfl⟩
  replace F := F h1 eh1
  refine x_iastore hG hM d_Ki_divide_20 c7 c8 ?_
  rw [← eh1]
  clear eh1
  refine x_aload_n hM d_Ki_divide_21 rfl 1 rfl ?_
  obtain ⟨c5, F⟩ := F
  obtain ⟨c6, F⟩ := F
  refine x_getr hG hM ck_Ki 14 (Nat.le_of_ble_eq_true rfl) rfl rfl w_339 rfl d_Ki_divide_22 c5 c6 ?_
  refine x_iconst (v := 0) hM d_Ki_divide_25 (by decide) ?_
  refine x_iload hM d_Ki_divide_26 0 rfl ?_
  obtain ⟨c3, F⟩ := F
  obtain ⟨c4, F⟩ := F
  obtain ⟨h2, eh2⟩ : ∃ z : Hp, z = wI h1 (rf h1 v0 14) (Int32.toNatClampNeg 0) (kI h (rf h v0 7) (Int32.toNatClampNeg v2)) := ⟨_, rfl⟩
  replace F := F h2 eh2
  refine x_iastore hG hM d_Ki_divide_28 c3 c4 ?_
  rw [← eh2]
  clear eh2
  refine x_iconst (v := 0) hM d_Ki_divide_29 (by decide) ?_
  refine x_istore (lv2 := [(6, .int 0), (5, .int (kI h (rf h v0 7) (Int32.toNatClampNeg v2))), (0, .ref v0), (1, .ref v1), (2, .int v2), (3, .int v3), (4, .int v4)]) hM d_Ki_divide_30 (Nat.le_of_ble_eq_true rfl) rfl ?_
  refine x_iconst (v := 1) hM d_Ki_divide_32 (by decide) ?_
  refine x_istore (lv2 := [(7, .int 1), (6, .int 0), (5, .int (kI h (rf h v0 7) (Int32.toNatClampNeg v2))), (0, .ref v0), (1, .ref v1), (2, .int v2), (3, .int v3), (4, .int v4)]) hM d_Ki_divide_33 (Nat.le_of_ble_eq_true rfl) rfl ?_
  refine x_sub [3, 4, 5, 6, 7, 2, 1, 0] rfl ?_
  exact F
set_option maxRecDepth 100000 in
set_option maxHeartbeats 4000000 in
theorem S_Ki_divide_35 {G : Gc} {M : Mc} {Q : State → Prop} {K : Option Value → Hp → Prop} (hG : gok G) (hM : mok G M r_Ki_divide Q K) (v0 : Nat) (v1 : Nat) (v2 : Int32) (v3 : Int32) (v4 : Int32) (v5 : Int32) (v6 : Int32) (v7 : Int32) (h : Hp) (F : (v4 ≤ v7 → ((v6 = 0 → (kT h v0 = 10 ∧ X G M Q 100 [(0, .ref v0), (1, .ref v1), (2, .int v2), (4, .int v4), (6, .int v6), (7, .int (kI h v0 0)), (8, .int 0)] [] h)) ∧ (¬ v6 = 0 → (kT h v0 = 10 ∧ kR h v0 4 = some (rf h v0 4) ∧ (kT h v0 = 10 ∧ kR h v0 15 = some (rf h v0 15) ∧ (kT h (rf h v0 4) = 50 ∧ kT h (rf h v0 15) = 50 ∧ ¬ v3 < 0 ∧ ¬ v3 < 0 ∧ ¬ (v5 - v3) < 0 ∧ Int32.toNatClampNeg v3 + Int32.toNatClampNeg (v5 - v3) ≤ kN h (rf h v0 4) ∧ Int32.toNatClampNeg v3 + Int32.toNatClampNeg (v5 - v3) ≤ kN h (rf h v0 15) ∧ (∀ h2 : Hp, h2 = wIs h (rf h v0 15) (va_cpy (kI h (rf h v0 4)) (kI h (rf h v0 15)) (Int32.toNatClampNeg v3) (Int32.toNatClampNeg v3) (Int32.toNatClampNeg (v5 - v3))) → (kT h2 v0 = 10 ∧ X G M Q 100 [(0, .ref v0), (1, .ref v1), (2, .int v2), (4, .int v4), (6, .int v6), (7, .int (kI h2 v0 0)), (8, .int 0)] [] h2)))))))) ∧ (¬ v4 ≤ v7 → (kT h v0 = 10 ∧ kR h v0 13 = some (rf h v0 13) ∧ (kT h (rf h v0 13) = 50 ∧ vp_in v7 (kN h (rf h v0 13)) ∧ (kT h v0 = 10 ∧ kR h v0 13 = some (rf h v0 13) ∧ (kT h (rf h v0 13) = 50 ∧ vp_in v6 (kN h (rf h v0 13)) ∧ (∀ z16 : Int32, z16 = (if (kI h (rf h v0 13) (Int32.toNatClampNeg v7)) ≤ (kI h (rf h v0 13) (Int32.toNatClampNeg v6)) then v6 else v7) → X G M Q 35 [(0, .ref v0), (1, .ref v1), (2, .int v2), (3, .int v3), (4, .int v4), (5, .int v5), (6, .int z16), (7, .int (v7 + 1))] [] h))))))) : X G M Q 35 [(0, .ref v0), (1, .ref v1), (2, .int v2), (3, .int v3), (4, .int v4), (5, .int v5), (6, .int v6), (7, .int v7)] [] h := by
  refine x_iload hM d_Ki_divide_35 7 rfl ?_
  refine x_iload hM d_Ki_divide_37 4 rfl ?_
  refine x_icmp_ge (tgt := 69) hM d_Ki_divide_39 (by decide) (fun q26 => ?_) (fun q26 => ?_)
  · replace F := F.1 q26
    refine x_iload hM d_Ki_divide_69 6 rfl ?_
    refine x_if_eq (tgt := 91) hM d_Ki_divide_71 (by decide) (fun q15 => ?_) (fun q15 => ?_)
    · replace F := F.1 q15
      refine x_aload_n hM d_Ki_divide_91 rfl 0 rfl ?_
      obtain ⟨c1, F⟩ := F
      refine x_geti hG hM ck_Ki 0 (Nat.le_of_ble_eq_true rfl) rfl rfl w_321 rfl d_Ki_divide_92 c1 ?_
      refine x_istore (lv2 := [(7, .int (kI h v0 0)), (0, .ref v0), (1, .ref v1), (2, .int v2), (3, .int v3), (4, .int v4), (5, .int v5), (6, .int v6)]) hM d_Ki_divide_95 (Nat.le_of_ble_eq_true rfl) rfl ?_
      refine x_iconst (v := 0) hM d_Ki_divide_97 (by decide) ?_
      refine x_istore (lv2 := [(8, .int 0), (7, .int (kI h v0 0)), (0, .ref v0), (1, .ref v1), (2, .int v2), (3, .int v3), (4, .int v4), (5, .int v5), (6, .int v6)]) hM d_Ki_divide_98 (Nat.le_of_ble_eq_true rfl) rfl ?_
      refine x_sub [2, 3, 4, 6, 8, 1, 0] rfl ?_
      exact F
    · replace F := F.2 q15
      refine x_aload_n hM d_Ki_divide_74 rfl 0 rfl ?_
      obtain ⟨c13, F⟩ := F
      obtain ⟨c14, F⟩ := F
      refine x_getr hG hM ck_Ki 4 (Nat.le_of_ble_eq_true rfl) rfl rfl w_329 rfl d_Ki_divide_75 c13 c14 ?_
      refine x_iload_n hM d_Ki_divide_78 rfl 3 rfl ?_
      refine x_aload_n hM d_Ki_divide_79 rfl 0 rfl ?_
      obtain ⟨c11, F⟩ := F
      obtain ⟨c12, F⟩ := F
      refine x_getr hG hM ck_Ki 15 (Nat.le_of_ble_eq_true rfl) rfl rfl w_340 rfl d_Ki_divide_80 c11 c12 ?_
      refine x_iload_n hM d_Ki_divide_83 rfl 3 rfl ?_
      refine x_iload hM d_Ki_divide_84 5 rfl ?_
      refine x_iload_n hM d_Ki_divide_86 rfl 3 rfl ?_
      refine x_isub hM d_Ki_divide_87 ?_
      obtain ⟨c4, F⟩ := F
      obtain ⟨c5, F⟩ := F
      obtain ⟨c6, F⟩ := F
      obtain ⟨c7, F⟩ := F
      obtain ⟨c8, F⟩ := F
      obtain ⟨c9, F⟩ := F
      obtain ⟨c10, F⟩ := F
      obtain ⟨h2, eh2⟩ : ∃ z : Hp, z = wIs h (rf h v0 15) (va_cpy (kI h (rf h v0 4)) (kI h (rf h v0 15)) (Int32.toNatClampNeg v3) (Int32.toNatClampNeg v3) (Int32.toNatClampNeg (v5 - v3))) := ⟨_, rfl⟩
      replace F := F h2 eh2
      refine x_acopy hG hM rfl w_749 w_751 w_750 w_15 (Nat.le_of_ble_eq_true rfl) (by decide) d_Ki_divide_88 c4 c5 c6 c7 c8 c9 c10 ?_
      rw [← eh2]
      clear eh2
      refine x_aload_n hM d_Ki_divide_91 rfl 0 rfl ?_
      obtain ⟨c3, F⟩ := F
      refine x_geti hG hM ck_Ki 0 (Nat.le_of_ble_eq_true rfl) rfl rfl w_321 rfl d_Ki_divide_92 c3 ?_
      refine x_istore (lv2 := [(7, .int (kI h2 v0 0)), (0, .ref v0), (1, .ref v1), (2, .int v2), (3, .int v3), (4, .int v4), (5, .int v5), (6, .int v6)]) hM d_Ki_divide_95 (Nat.le_of_ble_eq_true rfl) rfl ?_
      refine x_iconst (v := 0) hM d_Ki_divide_97 (by decide) ?_
      refine x_istore (lv2 := [(8, .int 0), (7, .int (kI h2 v0 0)), (0, .ref v0), (1, .ref v1), (2, .int v2), (3, .int v3), (4, .int v4), (5, .int v5), (6, .int v6)]) hM d_Ki_divide_98 (Nat.le_of_ble_eq_true rfl) rfl ?_
      refine x_sub [2, 3, 4, 6, 8, 1, 0] rfl ?_
      exact F
  · replace F := F.2 q26
    refine x_aload_n hM d_Ki_divide_42 rfl 0 rfl ?_
    obtain ⟨c24, F⟩ := F
    obtain ⟨c25, F⟩ := F
    refine x_getr hG hM ck_Ki 13 (Nat.le_of_ble_eq_true rfl) rfl rfl w_338 rfl d_Ki_divide_43 c24 c25 ?_
    refine x_iload hM d_Ki_divide_46 7 rfl ?_
    obtain ⟨c22, F⟩ := F
    obtain ⟨c23, F⟩ := F
    refine x_iaload hG hM d_Ki_divide_48 c22 c23 ?_
    refine x_aload_n hM d_Ki_divide_49 rfl 0 rfl ?_
    obtain ⟨c20, F⟩ := F
    obtain ⟨c21, F⟩ := F
    refine x_getr hG hM ck_Ki 13 (Nat.le_of_ble_eq_true rfl) rfl rfl w_338 rfl d_Ki_divide_50 c20 c21 ?_
    refine x_iload hM d_Ki_divide_53 6 rfl ?_
    obtain ⟨c18, F⟩ := F
    obtain ⟨c19, F⟩ := F
    refine x_iaload hG hM d_Ki_divide_55 c18 c19 ?_
    have JJ : ∀ (z16 : Int32) (ez16 : z16 = (if (kI h (rf h v0 13) (Int32.toNatClampNeg v7)) ≤ (kI h (rf h v0 13) (Int32.toNatClampNeg v6)) then v6 else v7)), X G M Q 63 [(0, .ref v0), (1, .ref v1), (2, .int v2), (3, .int v3), (4, .int v4), (5, .int v5), (6, .int z16), (7, .int v7)] [] h := by
      intro z16 ez16
      replace F := F _ ez16
      refine x_iinc (v := (v7 + 1)) (lv2 := [(7, .int (v7 + 1)), (0, .ref v0), (1, .ref v1), (2, .int v2), (3, .int v3), (4, .int v4), (5, .int v5), (6, .int z16)]) hM d_Ki_divide_63 (j := 7) rfl rfl (Nat.le_of_ble_eq_true rfl) rfl ?_
      refine x_goto (tgt := 35) hM d_Ki_divide_66 (by decide) ?_
      refine x_sub [1, 2, 3, 4, 5, 6, 7, 0] rfl ?_
      exact F
    refine x_icmp_le (tgt := 63) hM d_Ki_divide_56 (by decide) (fun q17 => ?_) (fun q17 => ?_)
    · exact JJ _ (Eq.symm (if_pos q17))
    · refine x_iload hM d_Ki_divide_59 7 rfl ?_
      refine x_istore (lv2 := [(6, .int v7), (0, .ref v0), (1, .ref v1), (2, .int v2), (3, .int v3), (4, .int v4), (5, .int v5), (7, .int v7)]) hM d_Ki_divide_61 (Nat.le_of_ble_eq_true rfl) rfl ?_
      refine x_sub [1, 2, 3, 4, 5, 6, 0, 7] rfl ?_
      exact JJ _ (Eq.symm (if_neg q17))
set_option maxRecDepth 100000 in
set_option maxHeartbeats 4000000 in
theorem S_Ki_divide_100 {G : Gc} {M : Mc} {Q : State → Prop} {K : Option Value → Hp → Prop} (hG : gok G) (hM : mok G M r_Ki_divide Q K) (v0 : Nat) (v1 : Nat) (v2 : Int32) (v4 : Int32) (v6 : Int32) (v7 : Int32) (v8 : Int32) (h : Hp) (F : (v4 ≤ v8 → (kT h v0 = 10 ∧ kR h v0 6 = some (rf h v0 6) ∧ (kT h v0 = 10 ∧ kR h v0 14 = some (rf h v0 14) ∧ (kT h (rf h v0 14) = 50 ∧ vp_in v6 (kN h (rf h v0 14)) ∧ (kT h v0 = 10 ∧ kR h v0 13 = some (rf h v0 13) ∧ (kT h (rf h v0 13) = 50 ∧ vp_in v6 (kN h (rf h v0 13)) ∧ (kT h (rf h v0 6) = 50 ∧ vp_in v2 (kN h (rf h v0 6)) ∧ (∀ h1 : Hp, h1 = wI h (rf h v0 6) (Int32.toNatClampNeg v2) ((kI h (rf h v0 14) (Int32.toNatClampNeg v6)) - (kI h (rf h v0 13) (Int32.toNatClampNeg v6))) → (kT h1 v0 = 10 ∧ kR h1 v0 7 = some (rf h1 v0 7) ∧ (kT h1 v0 = 10 ∧ kR h1 v0 14 = some (rf h1 v0 14) ∧ (kT h1 (rf h1 v0 14) = 50 ∧ vp_in v6 (kN h1 (rf h1 v0 14)) ∧ (kT h1 (rf h1 v0 7) = 50 ∧ vp_in v2 (kN h1 (rf h1 v0 7)) ∧ (∀ h2 : Hp, h2 = wI h1 (rf h1 v0 7) (Int32.toNatClampNeg v2) (kI h1 (rf h1 v0 14) (Int32.toNatClampNeg v6)) → X G M Q 185 [(0, .ref v0), (1, .ref v1), (8, .int v7)] [] h2))))))))))))) ∧ (¬ v4 ≤ v8 → ((v8 = v6 → X G M Q 100 [(0, .ref v0), (1, .ref v1), (2, .int v2), (4, .int v4), (6, .int v6), (7, .int v7), (8, .int (v8 + 1))] [] h) ∧ (¬ v8 = v6 → (kT h v0 = 10 ∧ kR h v0 14 = some (rf h v0 14) ∧ (kT h (rf h v0 14) = 50 ∧ vp_in v8 (kN h (rf h v0 14)) ∧ (kT h v0 = 10 ∧ kR h v0 13 = some (rf h v0 13) ∧ (kT h (rf h v0 13) = 50 ∧ vp_in v8 (kN h (rf h v0 13)) ∧ (kT h v0 = 10 ∧ kR h v0 14 = some (rf h v0 14) ∧ (kT h (rf h v0 14) = 50 ∧ vp_in v8 (kN h (rf h v0 14)) ∧ (kT h v0 = 10 ∧ sem G r_Ki_open [.ref v0, .int ((kI h (rf h v0 14) (Int32.toNatClampNeg v8)) - (kI h (rf h v0 13) (Int32.toNatClampNeg v8))), .int (kI h (rf h v0 14) (Int32.toNatClampNeg v8))] h (fun u24 h23 => ∃ x25 : Int32, u24 = some (.int x25) ∧ X G M Q 100 [(0, .ref v0), (1, .ref v1), (2, .int v2), (4, .int v4), (6, .int v6), (7, .int v7), (8, .int (v8 + 1))] [] h23)))))))))))) : X G M Q 100 [(0, .ref v0), (1, .ref v1), (2, .int v2), (4, .int v4), (6, .int v6), (7, .int v7), (8, .int v8)] [] h := by
  refine x_iload hM d_Ki_divide_100 6 rfl ?_
  refine x_iload hM d_Ki_divide_102 3 rfl ?_
  refine x_icmp_ge (tgt := 147) hM d_Ki_divide_104 (by decide) (fun q40 => ?_) (fun q40 => ?_)
  · replace F := F.1 q40
    refine x_aload_n hM d_Ki_divide_147 rfl 0 rfl ?_
    obtain ⟨c21, F⟩ := F
    obtain ⟨c22, F⟩ := F
    refine x_getr hG hM ck_Ki 6 (Nat.le_of_ble_eq_true rfl) rfl rfl w_331 rfl d_Ki_divide_148 c21 c22 ?_
    refine x_iload_n hM d_Ki_divide_151 rfl 2 rfl ?_
    refine x_aload_n hM d_Ki_divide_152 rfl 0 rfl ?_
    obtain ⟨c19, F⟩ := F
    obtain ⟨c20, F⟩ := F
    refine x_getr hG hM ck_Ki 14 (Nat.le_of_ble_eq_true rfl) rfl rfl w_339 rfl d_Ki_divide_153 c19 c20 ?_
    refine x_iload hM d_Ki_divide_156 4 rfl ?_
    obtain ⟨c17, F⟩ := F
    obtain ⟨c18, F⟩ := F
    refine x_iaload hG hM d_Ki_divide_158 c17 c18 ?_
    refine x_aload_n hM d_Ki_divide_159 rfl 0 rfl ?_
    obtain ⟨c15, F⟩ := F
    obtain ⟨c16, F⟩ := F
    refine x_getr hG hM ck_Ki 13 (Nat.le_of_ble_eq_true rfl) rfl rfl w_338 rfl d_Ki_divide_160 c15 c16 ?_
    refine x_iload hM d_Ki_divide_163 4 rfl ?_
    obtain ⟨c13, F⟩ := F
    obtain ⟨c14, F⟩ := F
    refine x_iaload hG hM d_Ki_divide_165 c13 c14 ?_
    refine x_isub hM d_Ki_divide_166 ?_
    obtain ⟨c11, F⟩ := F
    obtain ⟨c12, F⟩ := F
    obtain ⟨h1, eh1⟩ : ∃ z : Hp, z = wI h (rf h v0 6) (Int32.toNatClampNeg v2) ((kI h (rf h v0 14) (Int32.toNatClampNeg v6)) - (kI h (rf h v0 13) (Int32.toNatClampNeg v6))) := ⟨_, rfl⟩
    replace F := F h1 eh1
    refine x_iastore hG hM d_Ki_divide_167 c11 c12 ?_
    rw [← eh1]
    clear eh1
    refine x_aload_n hM d_Ki_divide_168 rfl 0 rfl ?_
    obtain ⟨c9, F⟩ := F
    obtain ⟨c10, F⟩ := F
    refine x_getr hG hM ck_Ki 7 (Nat.le_of_ble_eq_true rfl) rfl rfl w_332 rfl d_Ki_divide_169 c9 c10 ?_
    refine x_iload_n hM d_Ki_divide_172 rfl 2 rfl ?_
    refine x_aload_n hM d_Ki_divide_173 rfl 0 rfl ?_
    obtain ⟨c7, F⟩ := F
    obtain ⟨c8, F⟩ := F
    refine x_getr hG hM ck_Ki 14 (Nat.le_of_ble_eq_true rfl) rfl rfl w_339 rfl d_Ki_divide_174 c7 c8 ?_
    refine x_iload hM d_Ki_divide_177 4 rfl ?_
    obtain ⟨c5, F⟩ := F
    obtain ⟨c6, F⟩ := F
    refine x_iaload hG hM d_Ki_divide_179 c5 c6 ?_
    obtain ⟨c3, F⟩ := F
    obtain ⟨c4, F⟩ := F
    obtain ⟨h2, eh2⟩ : ∃ z : Hp, z = wI h1 (rf h1 v0 7) (Int32.toNatClampNeg v2) (kI h1 (rf h1 v0 14) (Int32.toNatClampNeg v6)) := ⟨_, rfl⟩
    replace F := F h2 eh2
    refine x_iastore hG hM d_Ki_divide_180 c3 c4 ?_
    rw [← eh2]
    clear eh2
    refine x_iload hM d_Ki_divide_181 5 rfl ?_
    refine x_istore (lv2 := [(8, .int v7), (0, .ref v0), (1, .ref v1), (2, .int v2), (4, .int v4), (6, .int v6), (7, .int v7)]) hM d_Ki_divide_183 (Nat.le_of_ble_eq_true rfl) rfl ?_
    refine x_sub [1, 2, 0] rfl ?_
    exact F
  · replace F := F.2 q40
    refine x_iload hM d_Ki_divide_107 6 rfl ?_
    refine x_iload hM d_Ki_divide_109 4 rfl ?_
    refine x_icmp_eq (tgt := 141) hM d_Ki_divide_111 (by decide) (fun q39 => ?_) (fun q39 => ?_)
    · replace F := F.1 q39
      refine x_iinc (v := (v8 + 1)) (lv2 := [(8, .int (v8 + 1)), (0, .ref v0), (1, .ref v1), (2, .int v2), (4, .int v4), (6, .int v6), (7, .int v7)]) hM d_Ki_divide_141 (j := 6) rfl rfl (Nat.le_of_ble_eq_true rfl) rfl ?_
      refine x_goto (tgt := 100) hM d_Ki_divide_144 (by decide) ?_
      refine x_sub [1, 2, 3, 4, 5, 6, 0] rfl ?_
      exact F
    · replace F := F.2 q39
      refine x_aload_n hM d_Ki_divide_114 rfl 0 rfl ?_
      refine x_aload_n hM d_Ki_divide_115 rfl 0 rfl ?_
      obtain ⟨c37, F⟩ := F
      obtain ⟨c38, F⟩ := F
      refine x_getr hG hM ck_Ki 14 (Nat.le_of_ble_eq_true rfl) rfl rfl w_339 rfl d_Ki_divide_116 c37 c38 ?_
      refine x_iload hM d_Ki_divide_119 6 rfl ?_
      obtain ⟨c35, F⟩ := F
      obtain ⟨c36, F⟩ := F
      refine x_iaload hG hM d_Ki_divide_121 c35 c36 ?_
      refine x_aload_n hM d_Ki_divide_122 rfl 0 rfl ?_
      obtain ⟨c33, F⟩ := F
      obtain ⟨c34, F⟩ := F
      refine x_getr hG hM ck_Ki 13 (Nat.le_of_ble_eq_true rfl) rfl rfl w_338 rfl d_Ki_divide_123 c33 c34 ?_
      refine x_iload hM d_Ki_divide_126 6 rfl ?_
      obtain ⟨c31, F⟩ := F
      obtain ⟨c32, F⟩ := F
      refine x_iaload hG hM d_Ki_divide_128 c31 c32 ?_
      refine x_isub hM d_Ki_divide_129 ?_
      refine x_aload_n hM d_Ki_divide_130 rfl 0 rfl ?_
      obtain ⟨c29, F⟩ := F
      obtain ⟨c30, F⟩ := F
      refine x_getr hG hM ck_Ki 14 (Nat.le_of_ble_eq_true rfl) rfl rfl w_339 rfl d_Ki_divide_131 c29 c30 ?_
      refine x_iload hM d_Ki_divide_134 6 rfl ?_
      obtain ⟨c27, F⟩ := F
      obtain ⟨c28, F⟩ := F
      refine x_iaload hG hM d_Ki_divide_136 c27 c28 ?_
      obtain ⟨c26, F⟩ := F
      refine x_callV hG hM (r' := r_Ki_open) (ci := 9) [.int ((kI h (rf h v0 14) (Int32.toNatClampNeg v8)) - (kI h (rf h v0 13) (Int32.toNatClampNeg v8))), .int (kI h (rf h v0 14) (Int32.toNatClampNeg v8))] rfl rfl (Nat.le_of_ble_eq_true rfl) yk_Ki_open ⟨Nat.le_of_ble_eq_true rfl, Nat.le_of_ble_eq_true rfl⟩ w_711 w_713 ws_Ki_open rfl rfl (Nat.le_of_ble_eq_true rfl) d_Ki_divide_137 c26 (sem_mono F ?_)
      intro u24 h23 F
      obtain ⟨x25, rfl, F⟩ := F
      refine x_pop hM d_Ki_divide_140 rfl ?_
      refine x_iinc (v := (v8 + 1)) (lv2 := [(8, .int (v8 + 1)), (0, .ref v0), (1, .ref v1), (2, .int v2), (4, .int v4), (6, .int v6), (7, .int v7)]) hM d_Ki_divide_141 (j := 6) rfl rfl (Nat.le_of_ble_eq_true rfl) rfl ?_
      refine x_goto (tgt := 100) hM d_Ki_divide_144 (by decide) ?_
      refine x_sub [1, 2, 3, 4, 5, 6, 0] rfl ?_
      exact F
set_option maxRecDepth 100000 in
set_option maxHeartbeats 4000000 in
theorem S_Ki_divide_185 {G : Gc} {M : Mc} {Q : State → Prop} {K : Option Value → Hp → Prop} (hG : gok G) (hM : mok G M r_Ki_divide Q K) (v0 : Nat) (v1 : Nat) (v8 : Int32) (h : Hp) (F : kT h v0 = 10 ∧ (((kI h v0 0) ≤ v8 → K none h) ∧ (¬ (kI h v0 0) ≤ v8 → (kT h v0 = 10 ∧ kR h v0 6 = some (rf h v0 6) ∧ (kT h (rf h v0 6) = 50 ∧ vp_in v8 (kN h (rf h v0 6)) ∧ X G M Q 203 [(0, .ref v0), (1, .ref v1), (8, .int v8), (9, .int (kI h (rf h v0 6) (Int32.toNatClampNeg v8)))] [] h))))) : X G M Q 185 [(0, .ref v0), (1, .ref v1), (8, .int v8)] [] h := by
  refine x_iload hM d_Ki_divide_185 2 rfl ?_
  refine x_aload_n hM d_Ki_divide_187 rfl 0 rfl ?_
  obtain ⟨c6, F⟩ := F
  refine x_geti hG hM ck_Ki 0 (Nat.le_of_ble_eq_true rfl) rfl rfl w_321 rfl d_Ki_divide_188 c6 ?_
  refine x_icmp_ge (tgt := 239) hM d_Ki_divide_191 (by decide) (fun q5 => ?_) (fun q5 => ?_)
  · replace F := F.1 q5
    exact x_return hM d_Ki_divide_239 rfl F
  · replace F := F.2 q5
    refine x_aload_n hM d_Ki_divide_194 rfl 0 rfl ?_
    obtain ⟨c3, F⟩ := F
    obtain ⟨c4, F⟩ := F
    refine x_getr hG hM ck_Ki 6 (Nat.le_of_ble_eq_true rfl) rfl rfl w_331 rfl d_Ki_divide_195 c3 c4 ?_
    refine x_iload hM d_Ki_divide_198 2 rfl ?_
    obtain ⟨c1, F⟩ := F
    obtain ⟨c2, F⟩ := F
    refine x_iaload hG hM d_Ki_divide_200 c1 c2 ?_
    refine x_istore (lv2 := [(9, .int (kI h (rf h v0 6) (Int32.toNatClampNeg v8))), (0, .ref v0), (1, .ref v1), (8, .int v8)]) hM d_Ki_divide_201 (Nat.le_of_ble_eq_true rfl) rfl ?_
    refine x_sub [1, 2, 3, 0] rfl ?_
    exact F
set_option maxRecDepth 100000 in
set_option maxHeartbeats 4000000 in
theorem S_Ki_divide_203 {G : Gc} {M : Mc} {Q : State → Prop} {K : Option Value → Hp → Prop} (hG : gok G) (hM : mok G M r_Ki_divide Q K) (v0 : Nat) (v1 : Nat) (v8 : Int32) (v9 : Int32) (h : Hp) (F : kT h v0 = 10 ∧ kR h v0 7 = some (rf h v0 7) ∧ (kT h (rf h v0 7) = 50 ∧ vp_in v8 (kN h (rf h v0 7)) ∧ (((kI h (rf h v0 7) (Int32.toNatClampNeg v8)) ≤ v9 → X G M Q 185 [(0, .ref v0), (1, .ref v1), (8, .int (v8 + 1))] [] h) ∧ (¬ (kI h (rf h v0 7) (Int32.toNatClampNeg v8)) ≤ v9 → (kT h v0 = 10 ∧ kR h v0 15 = some (rf h v0 15) ∧ (kT h (rf h v0 15) = 50 ∧ vp_in v9 (kN h (rf h v0 15)) ∧ (kT h v0 = 10 ∧ sem G r_Ki_markThoseBefore [.ref v0, .ref v1, .int (kI h (rf h v0 15) (Int32.toNatClampNeg v9))] h (fun u2 h1 => u2 = none ∧ X G M Q 203 [(0, .ref v0), (1, .ref v1), (8, .int v8), (9, .int (v9 + 1))] [] h1)))))))) : X G M Q 203 [(0, .ref v0), (1, .ref v1), (8, .int v8), (9, .int v9)] [] h := by
  refine x_iload hM d_Ki_divide_203 3 rfl ?_
  refine x_aload_n hM d_Ki_divide_205 rfl 0 rfl ?_
  obtain ⟨c11, F⟩ := F
  obtain ⟨c12, F⟩ := F
  refine x_getr hG hM ck_Ki 7 (Nat.le_of_ble_eq_true rfl) rfl rfl w_332 rfl d_Ki_divide_206 c11 c12 ?_
  refine x_iload hM d_Ki_divide_209 2 rfl ?_
  obtain ⟨c9, F⟩ := F
  obtain ⟨c10, F⟩ := F
  refine x_iaload hG hM d_Ki_divide_211 c9 c10 ?_
  refine x_icmp_ge (tgt := 233) hM d_Ki_divide_212 (by decide) (fun q8 => ?_) (fun q8 => ?_)
  · replace F := F.1 q8
    refine x_iinc (v := (v8 + 1)) (lv2 := [(8, .int (v8 + 1)), (0, .ref v0), (1, .ref v1), (9, .int v9)]) hM d_Ki_divide_233 (j := 2) rfl rfl (Nat.le_of_ble_eq_true rfl) rfl ?_
    refine x_goto (tgt := 185) hM d_Ki_divide_236 (by decide) ?_
    refine x_sub [1, 2, 0] rfl ?_
    exact F
  · replace F := F.2 q8
    refine x_aload_n hM d_Ki_divide_215 rfl 0 rfl ?_
    refine x_aload_n hM d_Ki_divide_216 rfl 1 rfl ?_
    refine x_aload_n hM d_Ki_divide_217 rfl 0 rfl ?_
    obtain ⟨c6, F⟩ := F
    obtain ⟨c7, F⟩ := F
    refine x_getr hG hM ck_Ki 15 (Nat.le_of_ble_eq_true rfl) rfl rfl w_340 rfl d_Ki_divide_218 c6 c7 ?_
    refine x_iload hM d_Ki_divide_221 3 rfl ?_
    obtain ⟨c4, F⟩ := F
    obtain ⟨c5, F⟩ := F
    refine x_iaload hG hM d_Ki_divide_223 c4 c5 ?_
    obtain ⟨c3, F⟩ := F
    refine x_callV hG hM (r' := r_Ki_markThoseBefore) (ci := 9) [.ref v1, .int (kI h (rf h v0 15) (Int32.toNatClampNeg v9))] rfl rfl (Nat.le_of_ble_eq_true rfl) yk_Ki_markThoseBefore ⟨Nat.le_of_ble_eq_true rfl, Nat.le_of_ble_eq_true rfl⟩ w_752 w_754 ws_Ki_markThoseBefore rfl rfl (Nat.le_of_ble_eq_true rfl) d_Ki_divide_224 c3 (sem_mono F ?_)
    intro u2 h1 F
    obtain ⟨rfl, F⟩ := F
    refine x_iinc (v := (v9 + 1)) (lv2 := [(9, .int (v9 + 1)), (0, .ref v0), (1, .ref v1), (8, .int v8)]) hM d_Ki_divide_227 (j := 3) rfl rfl (Nat.le_of_ble_eq_true rfl) rfl ?_
    refine x_goto (tgt := 203) hM d_Ki_divide_230 (by decide) ?_
    refine x_sub [1, 2, 3, 0] rfl ?_
    exact F
