theorem d_Mo_fairly_0 : decode b_Mo_fairly 0 = .ok (.iconst 0, 1) := by decide +kernel
theorem d_Mo_fairly_1 : decode b_Mo_fairly 1 = .ok (.istore_n 1, 1) := by decide +kernel
theorem d_Mo_fairly_2 : decode b_Mo_fairly 2 = .ok (.iload_n 1, 1) := by decide +kernel
theorem d_Mo_fairly_3 : decode b_Mo_fairly 3 = .ok (.aload_n 0, 1) := by decide +kernel
theorem d_Mo_fairly_4 : decode b_Mo_fairly 4 = .ok (.getfield 157, 3) := by decide +kernel
theorem d_Mo_fairly_7 : decode b_Mo_fairly 7 = .ok (.if_icmp .ge 16, 3) := by decide +kernel
theorem d_Mo_fairly_10 : decode b_Mo_fairly 10 = .ok (.aload_n 0, 1) := by decide +kernel
theorem d_Mo_fairly_11 : decode b_Mo_fairly 11 = .ok (.getfield 70, 3) := by decide +kernel
theorem d_Mo_fairly_14 : decode b_Mo_fairly 14 = .ok (.iload_n 1, 1) := by decide +kernel
theorem d_Mo_fairly_15 : decode b_Mo_fairly 15 = .ok (.iconst 1, 1) := by decide +kernel
theorem d_Mo_fairly_16 : decode b_Mo_fairly 16 = .ok (.bastore, 1) := by decide +kernel
theorem d_Mo_fairly_17 : decode b_Mo_fairly 17 = .ok (.iinc 1 1, 3) := by decide +kernel
theorem d_Mo_fairly_20 : decode b_Mo_fairly 20 = .ok (.goto (-18), 3) := by decide +kernel
theorem d_Mo_fairly_23 : decode b_Mo_fairly 23 = .ok (.iconst 1, 1) := by decide +kernel
theorem d_Mo_fairly_24 : decode b_Mo_fairly 24 = .ok (.istore_n 1, 1) := by decide +kernel
theorem d_Mo_fairly_25 : decode b_Mo_fairly 25 = .ok (.iload_n 1, 1) := by decide +kernel
theorem d_Mo_fairly_26 : decode b_Mo_fairly 26 = .ok (.ifCond .eq 212, 3) := by decide +kernel
theorem d_Mo_fairly_29 : decode b_Mo_fairly 29 = .ok (.aload_n 0, 1) := by decide +kernel
theorem d_Mo_fairly_30 : decode b_Mo_fairly 30 = .ok (.aload_n 0, 1) := by decide +kernel
theorem d_Mo_fairly_31 : decode b_Mo_fairly 31 = .ok (.getfield 60, 3) := by decide +kernel
theorem d_Mo_fairly_34 : decode b_Mo_fairly 34 = .ok (.invokevirtual 172, 3) := by decide +kernel
theorem d_Mo_fairly_37 : decode b_Mo_fairly 37 = .ok (.istore_n 2, 1) := by decide +kernel
theorem d_Mo_fairly_38 : decode b_Mo_fairly 38 = .ok (.iconst 0, 1) := by decide +kernel
theorem d_Mo_fairly_39 : decode b_Mo_fairly 39 = .ok (.istore_n 3, 1) := by decide +kernel
theorem d_Mo_fairly_40 : decode b_Mo_fairly 40 = .ok (.iload_n 3, 1) := by decide +kernel
theorem d_Mo_fairly_41 : decode b_Mo_fairly 41 = .ok (.iload_n 2, 1) := by decide +kernel
theorem d_Mo_fairly_42 : decode b_Mo_fairly 42 = .ok (.if_icmp .ge 125, 3) := by decide +kernel
theorem d_Mo_fairly_45 : decode b_Mo_fairly 45 = .ok (.aload_n 0, 1) := by decide +kernel
theorem d_Mo_fairly_46 : decode b_Mo_fairly 46 = .ok (.getfield 42, 3) := by decide +kernel
theorem d_Mo_fairly_49 : decode b_Mo_fairly 49 = .ok (.aload_n 0, 1) := by decide +kernel
theorem d_Mo_fairly_50 : decode b_Mo_fairly 50 = .ok (.getfield 63, 3) := by decide +kernel
theorem d_Mo_fairly_53 : decode b_Mo_fairly 53 = .ok (.iload_n 3, 1) := by decide +kernel
theorem d_Mo_fairly_54 : decode b_Mo_fairly 54 = .ok (.iaload, 1) := by decide +kernel
theorem d_Mo_fairly_55 : decode b_Mo_fairly 55 = .ok (.iaload, 1) := by decide +kernel
theorem d_Mo_fairly_56 : decode b_Mo_fairly 56 = .ok (.istore 4, 2) := by decide +kernel
theorem d_Mo_fairly_58 : decode b_Mo_fairly 58 = .ok (.iload 4, 2) := by decide +kernel
theorem d_Mo_fairly_60 : decode b_Mo_fairly 60 = .ok (.iconst (-1), 1) := by decide +kernel
theorem d_Mo_fairly_61 : decode b_Mo_fairly 61 = .ok (.if_icmp .eq 100, 3) := by decide +kernel
theorem d_Mo_fairly_64 : decode b_Mo_fairly 64 = .ok (.aload_n 0, 1) := by decide +kernel
theorem d_Mo_fairly_65 : decode b_Mo_fairly 65 = .ok (.getfield 45, 3) := by decide +kernel
theorem d_Mo_fairly_68 : decode b_Mo_fairly 68 = .ok (.iload 4, 2) := by decide +kernel
theorem d_Mo_fairly_70 : decode b_Mo_fairly 70 = .ok (.iaload, 1) := by decide +kernel
theorem d_Mo_fairly_71 : decode b_Mo_fairly 71 = .ok (.bipush 36, 2) := by decide +kernel
theorem d_Mo_fairly_73 : decode b_Mo_fairly 73 = .ok (.idiv, 1) := by decide +kernel
theorem d_Mo_fairly_74 : decode b_Mo_fairly 74 = .ok (.istore 5, 2) := by decide +kernel
theorem d_Mo_fairly_76 : decode b_Mo_fairly 76 = .ok (.aload_n 0, 1) := by decide +kernel
theorem d_Mo_fairly_77 : decode b_Mo_fairly 77 = .ok (.getfield 60, 3) := by decide +kernel
theorem d_Mo_fairly_80 : decode b_Mo_fairly 80 = .ok (.iload 5, 2) := by decide +kernel
theorem d_Mo_fairly_82 : decode b_Mo_fairly 82 = .ok (.iaload, 1) := by decide +kernel
theorem d_Mo_fairly_83 : decode b_Mo_fairly 83 = .ok (.iconst (-1), 1) := by decide +kernel
theorem d_Mo_fairly_84 : decode b_Mo_fairly 84 = .ok (.if_icmp .ne 65, 3) := by decide +kernel
theorem d_Mo_fairly_87 : decode b_Mo_fairly 87 = .ok (.aload_n 0, 1) := by decide +kernel
theorem d_Mo_fairly_88 : decode b_Mo_fairly 88 = .ok (.getfield 70, 3) := by decide +kernel
theorem d_Mo_fairly_91 : decode b_Mo_fairly 91 = .ok (.iload 5, 2) := by decide +kernel
theorem d_Mo_fairly_93 : decode b_Mo_fairly 93 = .ok (.baload, 1) := by decide +kernel
theorem d_Mo_fairly_94 : decode b_Mo_fairly 94 = .ok (.ifCond .eq 55, 3) := by decide +kernel
theorem d_Mo_fairly_97 : decode b_Mo_fairly 97 = .ok (.aload_n 0, 1) := by decide +kernel
theorem d_Mo_fairly_98 : decode b_Mo_fairly 98 = .ok (.iload 5, 2) := by decide +kernel
theorem d_Mo_fairly_100 : decode b_Mo_fairly 100 = .ok (.aload_n 0, 1) := by decide +kernel
theorem d_Mo_fairly_101 : decode b_Mo_fairly 101 = .ok (.getfield 45, 3) := by decide +kernel
theorem d_Mo_fairly_104 : decode b_Mo_fairly 104 = .ok (.iload 4, 2) := by decide +kernel
theorem d_Mo_fairly_106 : decode b_Mo_fairly 106 = .ok (.iaload, 1) := by decide +kernel
theorem d_Mo_fairly_107 : decode b_Mo_fairly 107 = .ok (.bipush 36, 2) := by decide +kernel
theorem d_Mo_fairly_109 : decode b_Mo_fairly 109 = .ok (.irem, 1) := by decide +kernel
theorem d_Mo_fairly_110 : decode b_Mo_fairly 110 = .ok (.iconst 3, 1) := by decide +kernel
theorem d_Mo_fairly_111 : decode b_Mo_fairly 111 = .ok (.idiv, 1) := by decide +kernel
theorem d_Mo_fairly_112 : decode b_Mo_fairly 112 = .ok (.invokevirtual 176, 3) := by decide +kernel
theorem d_Mo_fairly_115 : decode b_Mo_fairly 115 = .ok (.ifCond .eq 34, 3) := by decide +kernel
theorem d_Mo_fairly_118 : decode b_Mo_fairly 118 = .ok (.aload_n 0, 1) := by decide +kernel
theorem d_Mo_fairly_119 : decode b_Mo_fairly 119 = .ok (.getfield 60, 3) := by decide +kernel
theorem d_Mo_fairly_122 : decode b_Mo_fairly 122 = .ok (.iload 5, 2) := by decide +kernel
theorem d_Mo_fairly_124 : decode b_Mo_fairly 124 = .ok (.aload_n 0, 1) := by decide +kernel
theorem d_Mo_fairly_125 : decode b_Mo_fairly 125 = .ok (.getfield 60, 3) := by decide +kernel
theorem d_Mo_fairly_128 : decode b_Mo_fairly 128 = .ok (.aload_n 0, 1) := by decide +kernel
theorem d_Mo_fairly_129 : decode b_Mo_fairly 129 = .ok (.getfield 63, 3) := by decide +kernel
theorem d_Mo_fairly_132 : decode b_Mo_fairly 132 = .ok (.iload_n 3, 1) := by decide +kernel
theorem d_Mo_fairly_133 : decode b_Mo_fairly 133 = .ok (.iaload, 1) := by decide +kernel
theorem d_Mo_fairly_134 : decode b_Mo_fairly 134 = .ok (.iaload, 1) := by decide +kernel
theorem d_Mo_fairly_135 : decode b_Mo_fairly 135 = .ok (.iconst 1, 1) := by decide +kernel
theorem d_Mo_fairly_136 : decode b_Mo_fairly 136 = .ok (.iadd, 1) := by decide +kernel
theorem d_Mo_fairly_137 : decode b_Mo_fairly 137 = .ok (.iastore, 1) := by decide +kernel
theorem d_Mo_fairly_138 : decode b_Mo_fairly 138 = .ok (.aload_n 0, 1) := by decide +kernel
theorem d_Mo_fairly_139 : decode b_Mo_fairly 139 = .ok (.getfield 63, 3) := by decide +kernel
theorem d_Mo_fairly_142 : decode b_Mo_fairly 142 = .ok (.iload_n 2, 1) := by decide +kernel
theorem d_Mo_fairly_143 : decode b_Mo_fairly 143 = .ok (.iload 5, 2) := by decide +kernel
theorem d_Mo_fairly_145 : decode b_Mo_fairly 145 = .ok (.iastore, 1) := by decide +kernel
theorem d_Mo_fairly_146 : decode b_Mo_fairly 146 = .ok (.iinc 2 1, 3) := by decide +kernel
theorem d_Mo_fairly_149 : decode b_Mo_fairly 149 = .ok (.aload_n 0, 1) := by decide +kernel
theorem d_Mo_fairly_150 : decode b_Mo_fairly 150 = .ok (.getfield 48, 3) := by decide +kernel
theorem d_Mo_fairly_153 : decode b_Mo_fairly 153 = .ok (.iload 4, 2) := by decide +kernel
theorem d_Mo_fairly_155 : decode b_Mo_fairly 155 = .ok (.iaload, 1) := by decide +kernel
theorem d_Mo_fairly_156 : decode b_Mo_fairly 156 = .ok (.istore 4, 2) := by decide +kernel
theorem d_Mo_fairly_158 : decode b_Mo_fairly 158 = .ok (.goto (-100), 3) := by decide +kernel
theorem d_Mo_fairly_161 : decode b_Mo_fairly 161 = .ok (.iinc 3 1, 3) := by decide +kernel
theorem d_Mo_fairly_164 : decode b_Mo_fairly 164 = .ok (.goto (-124), 3) := by decide +kernel
theorem d_Mo_fairly_167 : decode b_Mo_fairly 167 = .ok (.iconst 0, 1) := by decide +kernel
theorem d_Mo_fairly_168 : decode b_Mo_fairly 168 = .ok (.istore_n 1, 1) := by decide +kernel
theorem d_Mo_fairly_169 : decode b_Mo_fairly 169 = .ok (.iconst 0, 1) := by decide +kernel
theorem d_Mo_fairly_170 : decode b_Mo_fairly 170 = .ok (.istore_n 3, 1) := by decide +kernel
theorem d_Mo_fairly_171 : decode b_Mo_fairly 171 = .ok (.iload_n 3, 1) := by decide +kernel
theorem d_Mo_fairly_172 : decode b_Mo_fairly 172 = .ok (.aload_n 0, 1) := by decide +kernel
theorem d_Mo_fairly_173 : decode b_Mo_fairly 173 = .ok (.getfield 157, 3) := by decide +kernel
theorem d_Mo_fairly_176 : decode b_Mo_fairly 176 = .ok (.if_icmp .ge 59, 3) := by decide +kernel
theorem d_Mo_fairly_179 : decode b_Mo_fairly 179 = .ok (.iload_n 1, 1) := by decide +kernel
theorem d_Mo_fairly_180 : decode b_Mo_fairly 180 = .ok (.ifCond .ne 22, 3) := by decide +kernel
theorem d_Mo_fairly_183 : decode b_Mo_fairly 183 = .ok (.aload_n 0, 1) := by decide +kernel
theorem d_Mo_fairly_184 : decode b_Mo_fairly 184 = .ok (.getfield 70, 3) := by decide +kernel
theorem d_Mo_fairly_187 : decode b_Mo_fairly 187 = .ok (.iload_n 3, 1) := by decide +kernel
theorem d_Mo_fairly_188 : decode b_Mo_fairly 188 = .ok (.baload, 1) := by decide +kernel
theorem d_Mo_fairly_189 : decode b_Mo_fairly 189 = .ok (.ifCond .eq 17, 3) := by decide +kernel
theorem d_Mo_fairly_192 : decode b_Mo_fairly 192 = .ok (.aload_n 0, 1) := by decide +kernel
theorem d_Mo_fairly_193 : decode b_Mo_fairly 193 = .ok (.getfield 60, 3) := by decide +kernel
theorem d_Mo_fairly_196 : decode b_Mo_fairly 196 = .ok (.iload_n 3, 1) := by decide +kernel
theorem d_Mo_fairly_197 : decode b_Mo_fairly 197 = .ok (.iaload, 1) := by decide +kernel
theorem d_Mo_fairly_198 : decode b_Mo_fairly 198 = .ok (.iconst (-1), 1) := by decide +kernel
theorem d_Mo_fairly_199 : decode b_Mo_fairly 199 = .ok (.if_icmp .ne 7, 3) := by decide +kernel
theorem d_Mo_fairly_202 : decode b_Mo_fairly 202 = .ok (.iconst 1, 1) := by decide +kernel
theorem d_Mo_fairly_203 : decode b_Mo_fairly 203 = .ok (.goto 4, 3) := by decide +kernel
theorem d_Mo_fairly_206 : decode b_Mo_fairly 206 = .ok (.iconst 0, 1) := by decide +kernel
theorem d_Mo_fairly_207 : decode b_Mo_fairly 207 = .ok (.istore_n 1, 1) := by decide +kernel
theorem d_Mo_fairly_208 : decode b_Mo_fairly 208 = .ok (.aload_n 0, 1) := by decide +kernel
theorem d_Mo_fairly_209 : decode b_Mo_fairly 209 = .ok (.getfield 70, 3) := by decide +kernel
theorem d_Mo_fairly_212 : decode b_Mo_fairly 212 = .ok (.iload_n 3, 1) := by decide +kernel
theorem d_Mo_fairly_213 : decode b_Mo_fairly 213 = .ok (.aload_n 0, 1) := by decide +kernel
theorem d_Mo_fairly_214 : decode b_Mo_fairly 214 = .ok (.getfield 60, 3) := by decide +kernel
theorem d_Mo_fairly_217 : decode b_Mo_fairly 217 = .ok (.iload_n 3, 1) := by decide +kernel
theorem d_Mo_fairly_218 : decode b_Mo_fairly 218 = .ok (.iaload, 1) := by decide +kernel
theorem d_Mo_fairly_219 : decode b_Mo_fairly 219 = .ok (.iconst (-1), 1) := by decide +kernel
theorem d_Mo_fairly_220 : decode b_Mo_fairly 220 = .ok (.if_icmp .eq 7, 3) := by decide +kernel
theorem d_Mo_fairly_223 : decode b_Mo_fairly 223 = .ok (.iconst 1, 1) := by decide +kernel
theorem d_Mo_fairly_224 : decode b_Mo_fairly 224 = .ok (.goto 4, 3) := by decide +kernel
theorem d_Mo_fairly_227 : decode b_Mo_fairly 227 = .ok (.iconst 0, 1) := by decide +kernel
theorem d_Mo_fairly_228 : decode b_Mo_fairly 228 = .ok (.bastore, 1) := by decide +kernel
theorem d_Mo_fairly_229 : decode b_Mo_fairly 229 = .ok (.iinc 3 1, 3) := by decide +kernel
theorem d_Mo_fairly_232 : decode b_Mo_fairly 232 = .ok (.goto (-61), 3) := by decide +kernel
theorem d_Mo_fairly_235 : decode b_Mo_fairly 235 = .ok (.goto (-210), 3) := by decide +kernel
theorem d_Mo_fairly_238 : decode b_Mo_fairly 238 = .ok (.return_, 1) := by decide +kernel
set_option maxRecDepth 100000 in
set_option maxHeartbeats 4000000 in
theorem S_Mo_fairly_0 {G : Gc} {M : Mc} {Q : State → Prop} {K : Option Value → Hp → Prop} (hG : gok G) (hM : mok G M r_Mo_fairly Q K) (v0 : Nat) (h : Hp) (F : X G M Q 2 [(0, .ref v0), (1, .int 0)] [] h) : X G M Q 0 [(0, .ref v0)] [] h := by
  refine x_iconst (v := 0) hM d_Mo_fairly_0 (by decide) ?_
  refine x_istore_n (lv2 := [(1, .int 0), (0, .ref v0)]) hM d_Mo_fairly_1 rfl (Nat.le_of_ble_eq_true rfl) rfl ?_
  refine x_sub [1, 0] rfl ?_
  exact F
set_option maxRecDepth 100000 in
set_option maxHeartbeats 4000000 in
theorem S_Mo_fairly_2 {G : Gc} {M : Mc} {Q : State → Prop} {K : Option Value → Hp → Prop} (hG : gok G) (hM : mok G M r_Mo_fairly Q K) (v0 : Nat) (v1 : Int32) (h : Hp) (F : kT h v0 = 12 ∧ (((kI h v0 13) ≤ v1 → X G M Q 25 [(0, .ref v0), (1, .int 1)] [] h) ∧ (¬ (kI h v0 13) ≤ v1 → (kT h v0 = 12 ∧ kR h v0 25 = some (rf h v0 25) ∧ (kT h (rf h v0 25) = 51 ∧ vp_in v1 (kN h (rf h v0 25)) ∧ (∀ h1 : Hp, h1 = wI h (rf h v0 25) (Int32.toNatClampNeg v1) 1 → X G M Q 2 [(0, .ref v0), (1, .int (v1 + 1))] [] h1)))))) : X G M Q 2 [(0, .ref v0), (1, .int v1)] [] h := by
  refine x_iload_n hM d_Mo_fairly_2 rfl 1 rfl ?_
  refine x_aload_n hM d_Mo_fairly_3 rfl 0 rfl ?_
  obtain ⟨c7, F⟩ := F
  refine x_geti hG hM ck_Mo 13 (Nat.le_of_ble_eq_true rfl) rfl rfl w_910 rfl d_Mo_fairly_4 c7 ?_
  refine x_icmp_ge (tgt := 23) hM d_Mo_fairly_7 (by decide) (fun q6 => ?_) (fun q6 => ?_)
  · replace F := F.1 q6
    refine x_iconst (v := 1) hM d_Mo_fairly_23 (by decide) ?_
    refine x_istore_n (lv2 := [(1, .int 1), (0, .ref v0)]) hM d_Mo_fairly_24 rfl (Nat.le_of_ble_eq_true rfl) rfl ?_
    refine x_sub [1, 0] rfl ?_
    exact F
  · replace F := F.2 q6
    refine x_aload_n hM d_Mo_fairly_10 rfl 0 rfl ?_
    obtain ⟨c4, F⟩ := F
    obtain ⟨c5, F⟩ := F
    refine x_getr hG hM ck_Mo 25 (Nat.le_of_ble_eq_true rfl) rfl rfl w_922 rfl d_Mo_fairly_11 c4 c5 ?_
    refine x_iload_n hM d_Mo_fairly_14 rfl 1 rfl ?_
    refine x_iconst (v := 1) hM d_Mo_fairly_15 (by decide) ?_
    obtain ⟨c2, F⟩ := F
    obtain ⟨c3, F⟩ := F
    obtain ⟨h1, eh1⟩ : ∃ z : Hp, z = wI h (rf h v0 25) (Int32.toNatClampNeg v1) 1 := ⟨_, rfl⟩
    replace F := F h1 eh1
    refine x_zastore hG hM d_Mo_fairly_16 c2 c3 (Or.inr rfl) ?_
    rw [← eh1]
    clear eh1
    refine x_iinc (v := (v1 + 1)) (lv2 := [(1, .int (v1 + 1)), (0, .ref v0)]) hM d_Mo_fairly_17 (j := 1) rfl rfl (Nat.le_of_ble_eq_true rfl) rfl ?_
    refine x_goto (tgt := 2) hM d_Mo_fairly_20 (by decide) ?_
    refine x_sub [1, 0] rfl ?_
    exact F
set_option maxRecDepth 100000 in
set_option maxHeartbeats 4000000 in
theorem S_Mo_fairly_25 {G : Gc} {M : Mc} {Q : State → Prop} {K : Option Value → Hp → Prop} (hG : gok G) (hM : mok G M r_Mo_fairly Q K) (v0 : Nat) (v1 : Int32) (h : Hp) (F : (v1 = 0 → K none h) ∧ (¬ v1 = 0 → (kT h v0 = 12 ∧ kR h v0 22 = some (rf h v0 22) ∧ (kT h v0 = 12 ∧ sem G r_Mo_aims [.ref v0, .ref (rf h v0 22)] h (fun u2 h1 => ∃ x3 : Int32, u2 = some (.int x3) ∧ X G M Q 40 [(0, .ref v0), (2, .int x3), (3, .int 0)] [] h1))))) : X G M Q 25 [(0, .ref v0), (1, .int v1)] [] h := by
  refine x_iload_n hM d_Mo_fairly_25 rfl 1 rfl ?_
  refine x_if_eq (tgt := 238) hM d_Mo_fairly_26 (by decide) (fun q7 => ?_) (fun q7 => ?_)
  · replace F := F.1 q7
    exact x_return hM d_Mo_fairly_238 rfl F
  · replace F := F.2 q7
    refine x_aload_n hM d_Mo_fairly_29 rfl 0 rfl ?_
    refine x_aload_n hM d_Mo_fairly_30 rfl 0 rfl ?_
    obtain ⟨c5, F⟩ := F
    obtain ⟨c6, F⟩ := F
    refine x_getr hG hM ck_Mo 22 (Nat.le_of_ble_eq_true rfl) rfl rfl w_919 rfl d_Mo_fairly_31 c5 c6 ?_
    obtain ⟨c4, F⟩ := F
    refine x_callV hG hM (r' := r_Mo_aims) (ci := 11) [.ref (rf h v0 22)] rfl rfl (Nat.le_of_ble_eq_true rfl) yk_Mo_aims ⟨Nat.le_of_ble_eq_true rfl, Nat.le_of_ble_eq_true rfl⟩ w_1124 w_1126 ws_Mo_aims rfl rfl (Nat.le_of_ble_eq_true rfl) d_Mo_fairly_34 c4 (sem_mono F ?_)
    intro u2 h1 F
    obtain ⟨x3, rfl, F⟩ := F
    refine x_istore_n (lv2 := [(2, .int x3), (0, .ref v0), (1, .int v1)]) hM d_Mo_fairly_37 rfl (Nat.le_of_ble_eq_true rfl) rfl ?_
    refine x_iconst (v := 0) hM d_Mo_fairly_38 (by decide) ?_
    refine x_istore_n (lv2 := [(3, .int 0), (2, .int x3), (0, .ref v0), (1, .int v1)]) hM d_Mo_fairly_39 rfl (Nat.le_of_ble_eq_true rfl) rfl ?_
    refine x_sub [2, 1, 0] rfl ?_
    exact F
set_option maxRecDepth 100000 in
set_option maxHeartbeats 4000000 in
theorem S_Mo_fairly_40 {G : Gc} {M : Mc} {Q : State → Prop} {K : Option Value → Hp → Prop} (hG : gok G) (hM : mok G M r_Mo_fairly Q K) (v0 : Nat) (v2 : Int32) (v3 : Int32) (h : Hp) (F : (v2 ≤ v3 → X G M Q 171 [(0, .ref v0), (1, .int 0), (3, .int 0)] [] h) ∧ (¬ v2 ≤ v3 → (kT h v0 = 12 ∧ kR h v0 16 = some (rf h v0 16) ∧ (kT h v0 = 12 ∧ kR h v0 23 = some (rf h v0 23) ∧ (kT h (rf h v0 23) = 50 ∧ vp_in v3 (kN h (rf h v0 23)) ∧ (kT h (rf h v0 16) = 50 ∧ vp_in (kI h (rf h v0 23) (Int32.toNatClampNeg v3)) (kN h (rf h v0 16)) ∧ X G M Q 58 [(0, .ref v0), (2, .int v2), (3, .int v3), (4, .int (kI h (rf h v0 16) (Int32.toNatClampNeg (kI h (rf h v0 23) (Int32.toNatClampNeg v3)))))] [] h)))))) : X G M Q 40 [(0, .ref v0), (2, .int v2), (3, .int v3)] [] h := by
  refine x_iload_n hM d_Mo_fairly_40 rfl 2 rfl ?_
  refine x_iload_n hM d_Mo_fairly_41 rfl 1 rfl ?_
  refine x_icmp_ge (tgt := 167) hM d_Mo_fairly_42 (by decide) (fun q9 => ?_) (fun q9 => ?_)
  · replace F := F.1 q9
    refine x_iconst (v := 0) hM d_Mo_fairly_167 (by decide) ?_
    refine x_istore_n (lv2 := [(1, .int 0), (0, .ref v0), (2, .int v2), (3, .int v3)]) hM d_Mo_fairly_168 rfl (Nat.le_of_ble_eq_true rfl) rfl ?_
    refine x_iconst (v := 0) hM d_Mo_fairly_169 (by decide) ?_
    refine x_istore_n (lv2 := [(3, .int 0), (1, .int 0), (0, .ref v0), (2, .int v2)]) hM d_Mo_fairly_170 rfl (Nat.le_of_ble_eq_true rfl) rfl ?_
    refine x_sub [2, 1, 0] rfl ?_
    exact F
  · replace F := F.2 q9
    refine x_aload_n hM d_Mo_fairly_45 rfl 0 rfl ?_
    obtain ⟨c7, F⟩ := F
    obtain ⟨c8, F⟩ := F
    refine x_getr hG hM ck_Mo 16 (Nat.le_of_ble_eq_true rfl) rfl rfl w_913 rfl d_Mo_fairly_46 c7 c8 ?_
    refine x_aload_n hM d_Mo_fairly_49 rfl 0 rfl ?_
    obtain ⟨c5, F⟩ := F
    obtain ⟨c6, F⟩ := F
    refine x_getr hG hM ck_Mo 23 (Nat.le_of_ble_eq_true rfl) rfl rfl w_920 rfl d_Mo_fairly_50 c5 c6 ?_
    refine x_iload_n hM d_Mo_fairly_53 rfl 2 rfl ?_
    obtain ⟨c3, F⟩ := F
    obtain ⟨c4, F⟩ := F
    refine x_iaload hG hM d_Mo_fairly_54 c3 c4 ?_
    obtain ⟨c1, F⟩ := F
    obtain ⟨c2, F⟩ := F
    refine x_iaload hG hM d_Mo_fairly_55 c1 c2 ?_
    refine x_istore (lv2 := [(4, .int (kI h (rf h v0 16) (Int32.toNatClampNeg (kI h (rf h v0 23) (Int32.toNatClampNeg v3))))), (0, .ref v0), (2, .int v2), (3, .int v3)]) hM d_Mo_fairly_56 (Nat.le_of_ble_eq_true rfl) rfl ?_
    refine x_sub [1, 2, 3, 0] rfl ?_
    exact F
set_option maxRecDepth 100000 in
set_option maxHeartbeats 4000000 in
theorem S_Mo_fairly_58 {G : Gc} {M : Mc} {Q : State → Prop} {K : Option Value → Hp → Prop} (hG : gok G) (hM : mok G M r_Mo_fairly Q K) (v0 : Nat) (v2 : Int32) (v3 : Int32) (v4 : Int32) (h : Hp) (F : (v4 = (-1) → X G M Q 40 [(0, .ref v0), (2, .int v2), (3, .int (v3 + 1))] [] h) ∧ (¬ v4 = (-1) → (kT h v0 = 12 ∧ kR h v0 17 = some (rf h v0 17) ∧ (kT h (rf h v0 17) = 50 ∧ vp_in v4 (kN h (rf h v0 17)) ∧ (kT h v0 = 12 ∧ kR h v0 22 = some (rf h v0 22) ∧ (kT h (rf h v0 22) = 50 ∧ vp_in ((kI h (rf h v0 17) (Int32.toNatClampNeg v4)) / 36) (kN h (rf h v0 22)) ∧ (((kI h (rf h v0 22) (Int32.toNatClampNeg ((kI h (rf h v0 17) (Int32.toNatClampNeg v4)) / 36))) = (-1) → (kT h v0 = 12 ∧ kR h v0 25 = some (rf h v0 25) ∧ (kT h (rf h v0 25) = 51 ∧ vp_in ((kI h (rf h v0 17) (Int32.toNatClampNeg v4)) / 36) (kN h (rf h v0 25)) ∧ (((kI h (rf h v0 25) (Int32.toNatClampNeg ((kI h (rf h v0 17) (Int32.toNatClampNeg v4)) / 36))) = 0 → (kT h v0 = 12 ∧ kR h v0 18 = some (rf h v0 18) ∧ (kT h (rf h v0 18) = 50 ∧ vp_in v4 (kN h (rf h v0 18)) ∧ X G M Q 58 [(0, .ref v0), (2, .int v2), (3, .int v3), (4, .int (kI h (rf h v0 18) (Int32.toNatClampNeg v4)))] [] h))) ∧ (¬ (kI h (rf h v0 25) (Int32.toNatClampNeg ((kI h (rf h v0 17) (Int32.toNatClampNeg v4)) / 36))) = 0 → (kT h v0 = 12 ∧ kR h v0 17 = some (rf h v0 17) ∧ (kT h (rf h v0 17) = 50 ∧ vp_in v4 (kN h (rf h v0 17)) ∧ (kT h v0 = 12 ∧ sem G r_Mo_staysWon [.ref v0, .int ((kI h (rf h v0 17) (Int32.toNatClampNeg v4)) / 36), .int (((kI h (rf h v0 17) (Int32.toNatClampNeg v4)) - (kI h (rf h v0 17) (Int32.toNatClampNeg v4)) / 36 * 36) / 3)] h (fun u10 h9 => ∃ x11 : Int32, u10 = some (.int x11) ∧ ((x11 = 0 → (kT h9 v0 = 12 ∧ kR h9 v0 18 = some (rf h9 v0 18) ∧ (kT h9 (rf h9 v0 18) = 50 ∧ vp_in v4 (kN h9 (rf h9 v0 18)) ∧ X G M Q 58 [(0, .ref v0), (2, .int v2), (3, .int v3), (4, .int (kI h9 (rf h9 v0 18) (Int32.toNatClampNeg v4)))] [] h9))) ∧ (¬ x11 = 0 → (kT h9 v0 = 12 ∧ kR h9 v0 22 = some (rf h9 v0 22) ∧ (kT h9 v0 = 12 ∧ kR h9 v0 22 = some (rf h9 v0 22) ∧ (kT h9 v0 = 12 ∧ kR h9 v0 23 = some (rf h9 v0 23) ∧ (kT h9 (rf h9 v0 23) = 50 ∧ vp_in v3 (kN h9 (rf h9 v0 23)) ∧ (kT h9 (rf h9 v0 22) = 50 ∧ vp_in (kI h9 (rf h9 v0 23) (Int32.toNatClampNeg v3)) (kN h9 (rf h9 v0 22)) ∧ (kT h9 (rf h9 v0 22) = 50 ∧ vp_in ((kI h (rf h v0 17) (Int32.toNatClampNeg v4)) / 36) (kN h9 (rf h9 v0 22)) ∧ (∀ h16 : Hp, h16 = wI h9 (rf h9 v0 22) (Int32.toNatClampNeg ((kI h (rf h v0 17) (Int32.toNatClampNeg v4)) / 36)) ((kI h9 (rf h9 v0 22) (Int32.toNatClampNeg (kI h9 (rf h9 v0 23) (Int32.toNatClampNeg v3)))) + 1) → (kT h16 v0 = 12 ∧ kR h16 v0 23 = some (rf h16 v0 23) ∧ (kT h16 (rf h16 v0 23) = 50 ∧ vp_in v2 (kN h16 (rf h16 v0 23)) ∧ (∀ h17 : Hp, h17 = wI h16 (rf h16 v0 23) (Int32.toNatClampNeg v2) ((kI h (rf h v0 17) (Int32.toNatClampNeg v4)) / 36) → (kT h17 v0 = 12 ∧ kR h17 v0 18 = some (rf h17 v0 18) ∧ (kT h17 (rf h17 v0 18) = 50 ∧ vp_in v4 (kN h17 (rf h17 v0 18)) ∧ X G M Q 58 [(0, .ref v0), (2, .int (v2 + 1)), (3, .int v3), (4, .int (kI h17 (rf h17 v0 18) (Int32.toNatClampNeg v4)))] [] h17))))))))))))))))))))))) ∧ (¬ (kI h (rf h v0 22) (Int32.toNatClampNeg ((kI h (rf h v0 17) (Int32.toNatClampNeg v4)) / 36))) = (-1) → (kT h v0 = 12 ∧ kR h v0 18 = some (rf h v0 18) ∧ (kT h (rf h v0 18) = 50 ∧ vp_in v4 (kN h (rf h v0 18)) ∧ X G M Q 58 [(0, .ref v0), (2, .int v2), (3, .int v3), (4, .int (kI h (rf h v0 18) (Int32.toNatClampNeg v4)))] [] h)))))))))) : X G M Q 58 [(0, .ref v0), (2, .int v2), (3, .int v3), (4, .int v4)] [] h := by
  refine x_iload hM d_Mo_fairly_58 3 rfl ?_
  refine x_iconst (v := (-1)) hM d_Mo_fairly_60 (by decide) ?_
  refine x_icmp_eq (tgt := 161) hM d_Mo_fairly_61 (by decide) (fun q58 => ?_) (fun q58 => ?_)
  · replace F := F.1 q58
    refine x_iinc (v := (v3 + 1)) (lv2 := [(3, .int (v3 + 1)), (0, .ref v0), (2, .int v2), (4, .int v4)]) hM d_Mo_fairly_161 (j := 2) rfl rfl (Nat.le_of_ble_eq_true rfl) rfl ?_
    refine x_goto (tgt := 40) hM d_Mo_fairly_164 (by decide) ?_
    refine x_sub [1, 2, 0] rfl ?_
    exact F
  · replace F := F.2 q58
    refine x_aload_n hM d_Mo_fairly_64 rfl 0 rfl ?_
    obtain ⟨c56, F⟩ := F
    obtain ⟨c57, F⟩ := F
    refine x_getr hG hM ck_Mo 17 (Nat.le_of_ble_eq_true rfl) rfl rfl w_914 rfl d_Mo_fairly_65 c56 c57 ?_
    refine x_iload hM d_Mo_fairly_68 3 rfl ?_
    obtain ⟨c54, F⟩ := F
    obtain ⟨c55, F⟩ := F
    refine x_iaload hG hM d_Mo_fairly_70 c54 c55 ?_
    refine x_bipush (v := 36) hM d_Mo_fairly_71 (by decide) ?_
    refine x_idiv hM d_Mo_fairly_73 (by decide) ?_
    refine x_istore (lv2 := [(5, .int ((kI h (rf h v0 17) (Int32.toNatClampNeg v4)) / 36)), (0, .ref v0), (2, .int v2), (3, .int v3), (4, .int v4)]) hM d_Mo_fairly_74 (Nat.le_of_ble_eq_true rfl) rfl ?_
    refine x_aload_n hM d_Mo_fairly_76 rfl 1 rfl ?_
    obtain ⟨c52, F⟩ := F
    obtain ⟨c53, F⟩ := F
    refine x_getr hG hM ck_Mo 22 (Nat.le_of_ble_eq_true rfl) rfl rfl w_919 rfl d_Mo_fairly_77 c52 c53 ?_
    refine x_iload hM d_Mo_fairly_80 0 rfl ?_
    obtain ⟨c50, F⟩ := F
    obtain ⟨c51, F⟩ := F
    refine x_iaload hG hM d_Mo_fairly_82 c50 c51 ?_
    refine x_iconst (v := (-1)) hM d_Mo_fairly_83 (by decide) ?_
    refine x_icmp_ne (tgt := 149) hM d_Mo_fairly_84 (by decide) (fun q49 => ?_) (fun q49 => ?_)
    · replace F := F.2 q49
      refine x_aload_n hM d_Mo_fairly_149 rfl 1 rfl ?_
      obtain ⟨c3, F⟩ := F
      obtain ⟨c4, F⟩ := F
      refine x_getr hG hM ck_Mo 18 (Nat.le_of_ble_eq_true rfl) rfl rfl w_915 rfl d_Mo_fairly_150 c3 c4 ?_
      refine x_iload hM d_Mo_fairly_153 4 rfl ?_
      obtain ⟨c1, F⟩ := F
      obtain ⟨c2, F⟩ := F
      refine x_iaload hG hM d_Mo_fairly_155 c1 c2 ?_
      refine x_istore (lv2 := [(4, .int (kI h (rf h v0 18) (Int32.toNatClampNeg v4))), (5, .int ((kI h (rf h v0 17) (Int32.toNatClampNeg v4)) / 36)), (0, .ref v0), (2, .int v2), (3, .int v3)]) hM d_Mo_fairly_156 (Nat.le_of_ble_eq_true rfl) rfl ?_
      refine x_goto (tgt := 58) hM d_Mo_fairly_158 (by decide) ?_
      refine x_sub [2, 3, 4, 0] rfl ?_
      exact F
    · replace F := F.1 q49
      refine x_aload_n hM d_Mo_fairly_87 rfl 1 rfl ?_
      obtain ⟨c47, F⟩ := F
      obtain ⟨c48, F⟩ := F
      refine x_getr hG hM ck_Mo 25 (Nat.le_of_ble_eq_true rfl) rfl rfl w_922 rfl d_Mo_fairly_88 c47 c48 ?_
      refine x_iload hM d_Mo_fairly_91 0 rfl ?_
      obtain ⟨c45, F⟩ := F
      obtain ⟨c46, F⟩ := F
      refine x_zaload hG hM d_Mo_fairly_93 c45 c46 ?_
      refine x_if_eq (tgt := 149) hM d_Mo_fairly_94 (by decide) (fun q44 => ?_) (fun q44 => ?_)
      · replace F := F.1 q44
        refine x_aload_n hM d_Mo_fairly_149 rfl 1 rfl ?_
        obtain ⟨c7, F⟩ := F
        obtain ⟨c8, F⟩ := F
        refine x_getr hG hM ck_Mo 18 (Nat.le_of_ble_eq_true rfl) rfl rfl w_915 rfl d_Mo_fairly_150 c7 c8 ?_
        refine x_iload hM d_Mo_fairly_153 4 rfl ?_
        obtain ⟨c5, F⟩ := F
        obtain ⟨c6, F⟩ := F
        refine x_iaload hG hM d_Mo_fairly_155 c5 c6 ?_
        refine x_istore (lv2 := [(4, .int (kI h (rf h v0 18) (Int32.toNatClampNeg v4))), (5, .int ((kI h (rf h v0 17) (Int32.toNatClampNeg v4)) / 36)), (0, .ref v0), (2, .int v2), (3, .int v3)]) hM d_Mo_fairly_156 (Nat.le_of_ble_eq_true rfl) rfl ?_
        refine x_goto (tgt := 58) hM d_Mo_fairly_158 (by decide) ?_
        refine x_sub [2, 3, 4, 0] rfl ?_
        exact F
      · replace F := F.2 q44
        refine x_aload_n hM d_Mo_fairly_97 rfl 1 rfl ?_
        refine x_iload hM d_Mo_fairly_98 0 rfl ?_
        refine x_aload_n hM d_Mo_fairly_100 rfl 1 rfl ?_
        obtain ⟨c42, F⟩ := F
        obtain ⟨c43, F⟩ := F
        refine x_getr hG hM ck_Mo 17 (Nat.le_of_ble_eq_true rfl) rfl rfl w_914 rfl d_Mo_fairly_101 c42 c43 ?_
        refine x_iload hM d_Mo_fairly_104 4 rfl ?_
        obtain ⟨c40, F⟩ := F
        obtain ⟨c41, F⟩ := F
        refine x_iaload hG hM d_Mo_fairly_106 c40 c41 ?_
        refine x_bipush (v := 36) hM d_Mo_fairly_107 (by decide) ?_
        refine x_irem hM d_Mo_fairly_109 (by decide) ?_
        refine x_iconst (v := 3) hM d_Mo_fairly_110 (by decide) ?_
        refine x_idiv hM d_Mo_fairly_111 (by decide) ?_
        obtain ⟨c39, F⟩ := F
        refine x_callV hG hM (r' := r_Mo_staysWon) (ci := 11) [.int ((kI h (rf h v0 17) (Int32.toNatClampNeg v4)) / 36), .int (((kI h (rf h v0 17) (Int32.toNatClampNeg v4)) - (kI h (rf h v0 17) (Int32.toNatClampNeg v4)) / 36 * 36) / 3)] rfl rfl (Nat.le_of_ble_eq_true rfl) yk_Mo_staysWon ⟨Nat.le_of_ble_eq_true rfl, Nat.le_of_ble_eq_true rfl⟩ w_1136 w_1138 ws_Mo_staysWon rfl rfl (Nat.le_of_ble_eq_true rfl) d_Mo_fairly_112 c39 (sem_mono F ?_)
        intro u10 h9 F
        obtain ⟨x11, rfl, F⟩ := F
        refine x_if_eq (tgt := 149) hM d_Mo_fairly_115 (by decide) (fun q38 => ?_) (fun q38 => ?_)
        · replace F := F.1 q38
          refine x_aload_n hM d_Mo_fairly_149 rfl 1 rfl ?_
          obtain ⟨c14, F⟩ := F
          obtain ⟨c15, F⟩ := F
          refine x_getr hG hM ck_Mo 18 (Nat.le_of_ble_eq_true rfl) rfl rfl w_915 rfl d_Mo_fairly_150 c14 c15 ?_
          refine x_iload hM d_Mo_fairly_153 4 rfl ?_
          obtain ⟨c12, F⟩ := F
          obtain ⟨c13, F⟩ := F
          refine x_iaload hG hM d_Mo_fairly_155 c12 c13 ?_
          refine x_istore (lv2 := [(4, .int (kI h9 (rf h9 v0 18) (Int32.toNatClampNeg v4))), (5, .int ((kI h (rf h v0 17) (Int32.toNatClampNeg v4)) / 36)), (0, .ref v0), (2, .int v2), (3, .int v3)]) hM d_Mo_fairly_156 (Nat.le_of_ble_eq_true rfl) rfl ?_
          refine x_goto (tgt := 58) hM d_Mo_fairly_158 (by decide) ?_
          refine x_sub [2, 3, 4, 0] rfl ?_
          exact F
        · replace F := F.2 q38
          refine x_aload_n hM d_Mo_fairly_118 rfl 1 rfl ?_
          obtain ⟨c36, F⟩ := F
          obtain ⟨c37, F⟩ := F
          refine x_getr hG hM ck_Mo 22 (Nat.le_of_ble_eq_true rfl) rfl rfl w_919 rfl d_Mo_fairly_119 c36 c37 ?_
          refine x_iload hM d_Mo_fairly_122 0 rfl ?_
          refine x_aload_n hM d_Mo_fairly_124 rfl 1 rfl ?_
          obtain ⟨c34, F⟩ := F
          obtain ⟨c35, F⟩ := F
          refine x_getr hG hM ck_Mo 22 (Nat.le_of_ble_eq_true rfl) rfl rfl w_919 rfl d_Mo_fairly_125 c34 c35 ?_
          refine x_aload_n hM d_Mo_fairly_128 rfl 1 rfl ?_
          obtain ⟨c32, F⟩ := F
          obtain ⟨c33, F⟩ := F
          refine x_getr hG hM ck_Mo 23 (Nat.le_of_ble_eq_true rfl) rfl rfl w_920 rfl d_Mo_fairly_129 c32 c33 ?_
          refine x_iload_n hM d_Mo_fairly_132 rfl 3 rfl ?_
          obtain ⟨c30, F⟩ := F
          obtain ⟨c31, F⟩ := F
          refine x_iaload hG hM d_Mo_fairly_133 c30 c31 ?_
          obtain ⟨c28, F⟩ := F
          obtain ⟨c29, F⟩ := F
          refine x_iaload hG hM d_Mo_fairly_134 c28 c29 ?_
          refine x_iconst (v := 1) hM d_Mo_fairly_135 (by decide) ?_
          refine x_iadd hM d_Mo_fairly_136 ?_
          obtain ⟨c26, F⟩ := F
          obtain ⟨c27, F⟩ := F
          obtain ⟨h16, eh16⟩ : ∃ z : Hp, z = wI h9 (rf h9 v0 22) (Int32.toNatClampNeg ((kI h (rf h v0 17) (Int32.toNatClampNeg v4)) / 36)) ((kI h9 (rf h9 v0 22) (Int32.toNatClampNeg (kI h9 (rf h9 v0 23) (Int32.toNatClampNeg v3)))) + 1) := ⟨_, rfl⟩
          replace F := F h16 eh16
          refine x_iastore hG hM d_Mo_fairly_137 c26 c27 ?_
          rw [← eh16]
          clear eh16
          refine x_aload_n hM d_Mo_fairly_138 rfl 1 rfl ?_
          obtain ⟨c24, F⟩ := F
          obtain ⟨c25, F⟩ := F
          refine x_getr hG hM ck_Mo 23 (Nat.le_of_ble_eq_true rfl) rfl rfl w_920 rfl d_Mo_fairly_139 c24 c25 ?_
          refine x_iload_n hM d_Mo_fairly_142 rfl 2 rfl ?_
          refine x_iload hM d_Mo_fairly_143 0 rfl ?_
          obtain ⟨c22, F⟩ := F
          obtain ⟨c23, F⟩ := F
          obtain ⟨h17, eh17⟩ : ∃ z : Hp, z = wI h16 (rf h16 v0 23) (Int32.toNatClampNeg v2) ((kI h (rf h v0 17) (Int32.toNatClampNeg v4)) / 36) := ⟨_, rfl⟩
          replace F := F h17 eh17
          refine x_iastore hG hM d_Mo_fairly_145 c22 c23 ?_
          rw [← eh17]
          clear eh17
          refine x_iinc (v := (v2 + 1)) (lv2 := [(2, .int (v2 + 1)), (5, .int ((kI h (rf h v0 17) (Int32.toNatClampNeg v4)) / 36)), (0, .ref v0), (3, .int v3), (4, .int v4)]) hM d_Mo_fairly_146 (j := 2) rfl rfl (Nat.le_of_ble_eq_true rfl) rfl ?_
          refine x_aload_n hM d_Mo_fairly_149 rfl 2 rfl ?_
          obtain ⟨c20, F⟩ := F
          obtain ⟨c21, F⟩ := F
          refine x_getr hG hM ck_Mo 18 (Nat.le_of_ble_eq_true rfl) rfl rfl w_915 rfl d_Mo_fairly_150 c20 c21 ?_
          refine x_iload hM d_Mo_fairly_153 4 rfl ?_
          obtain ⟨c18, F⟩ := F
          obtain ⟨c19, F⟩ := F
          refine x_iaload hG hM d_Mo_fairly_155 c18 c19 ?_
          refine x_istore (lv2 := [(4, .int (kI h17 (rf h17 v0 18) (Int32.toNatClampNeg v4))), (2, .int (v2 + 1)), (5, .int ((kI h (rf h v0 17) (Int32.toNatClampNeg v4)) / 36)), (0, .ref v0), (3, .int v3)]) hM d_Mo_fairly_156 (Nat.le_of_ble_eq_true rfl) rfl ?_
          refine x_goto (tgt := 58) hM d_Mo_fairly_158 (by decide) ?_
          refine x_sub [3, 1, 4, 0] rfl ?_
          exact F
set_option maxRecDepth 100000 in
set_option maxHeartbeats 4000000 in
theorem S_Mo_fairly_171 {G : Gc} {M : Mc} {Q : State → Prop} {K : Option Value → Hp → Prop} (hG : gok G) (hM : mok G M r_Mo_fairly Q K) (v0 : Nat) (v1 : Int32) (v3 : Int32) (h : Hp) (F : kT h v0 = 12 ∧ (((kI h v0 13) ≤ v3 → X G M Q 25 [(0, .ref v0), (1, .int v1)] [] h) ∧ (¬ (kI h v0 13) ≤ v3 → ((v1 = 0 → (kT h v0 = 12 ∧ kR h v0 25 = some (rf h v0 25) ∧ kT h (rf h v0 25) = 51 ∧ vp_in v3 (kN h (rf h v0 25)) ∧ (¬ (kI h (rf h v0 25) (Int32.toNatClampNeg v3)) = 0 → (kT h v0 = 12 ∧ kR h v0 22 = some (rf h v0 22) ∧ kT h (rf h v0 22) = 50 ∧ vp_in v3 (kN h (rf h v0 22)))))) ∧ (∀ z1 : Int32, z1 = (if v1 = 0 then (if (kI h (rf h v0 25) (Int32.toNatClampNeg v3)) = 0 then 0 else (if (kI h (rf h v0 22) (Int32.toNatClampNeg v3)) = (-1) then 1 else 0)) else 1) → (kT h v0 = 12 ∧ kR h v0 25 = some (rf h v0 25) ∧ (kT h v0 = 12 ∧ kR h v0 22 = some (rf h v0 22) ∧ (kT h (rf h v0 22) = 50 ∧ vp_in v3 (kN h (rf h v0 22)) ∧ (∀ z2 : Int32, z2 = (if (kI h (rf h v0 22) (Int32.toNatClampNeg v3)) = (-1) then 0 else 1) → (kT h (rf h v0 25) = 51 ∧ vp_in v3 (kN h (rf h v0 25)) ∧ nb z2 ∧ (∀ h3 : Hp, h3 = wI h (rf h v0 25) (Int32.toNatClampNeg v3) z2 → X G M Q 171 [(0, .ref v0), (1, .int z1), (3, .int (v3 + 1))] [] h3))))))))))) : X G M Q 171 [(0, .ref v0), (1, .int v1), (3, .int v3)] [] h := by
  refine x_iload_n hM d_Mo_fairly_171 rfl 2 rfl ?_
  refine x_aload_n hM d_Mo_fairly_172 rfl 0 rfl ?_
  obtain ⟨c26, F⟩ := F
  refine x_geti hG hM ck_Mo 13 (Nat.le_of_ble_eq_true rfl) rfl rfl w_910 rfl d_Mo_fairly_173 c26 ?_
  refine x_icmp_ge (tgt := 235) hM d_Mo_fairly_176 (by decide) (fun q25 => ?_) (fun q25 => ?_)
  · replace F := F.1 q25
    refine x_goto (tgt := 25) hM d_Mo_fairly_235 (by decide) ?_
    refine x_sub [0, 1] rfl ?_
    exact F
  · replace F := F.2 q25
    refine x_iload_n hM d_Mo_fairly_179 rfl 1 rfl ?_
    obtain ⟨S, F⟩ := F
    have JJ : ∀ (z1 : Int32) (ez1 : z1 = (if v1 = 0 then (if (kI h (rf h v0 25) (Int32.toNatClampNeg v3)) = 0 then 0 else (if (kI h (rf h v0 22) (Int32.toNatClampNeg v3)) = (-1) then 1 else 0)) else 1)), X G M Q 207 [(0, .ref v0), (3, .int v3)] [.int z1] h := by
      intro z1 ez1
      replace F := F _ ez1
      refine x_istore_n (lv2 := [(1, .int z1), (0, .ref v0), (3, .int v3)]) hM d_Mo_fairly_207 rfl (Nat.le_of_ble_eq_true rfl) rfl ?_
      refine x_aload_n hM d_Mo_fairly_208 rfl 1 rfl ?_
      obtain ⟨c12, F⟩ := F
      obtain ⟨c13, F⟩ := F
      refine x_getr hG hM ck_Mo 25 (Nat.le_of_ble_eq_true rfl) rfl rfl w_922 rfl d_Mo_fairly_209 c12 c13 ?_
      refine x_iload_n hM d_Mo_fairly_212 rfl 2 rfl ?_
      refine x_aload_n hM d_Mo_fairly_213 rfl 1 rfl ?_
      obtain ⟨c10, F⟩ := F
      obtain ⟨c11, F⟩ := F
      refine x_getr hG hM ck_Mo 22 (Nat.le_of_ble_eq_true rfl) rfl rfl w_919 rfl d_Mo_fairly_214 c10 c11 ?_
      refine x_iload_n hM d_Mo_fairly_217 rfl 2 rfl ?_
      obtain ⟨c8, F⟩ := F
      obtain ⟨c9, F⟩ := F
      refine x_iaload hG hM d_Mo_fairly_218 c8 c9 ?_
      refine x_iconst (v := (-1)) hM d_Mo_fairly_219 (by decide) ?_
      have JJ : ∀ (z2 : Int32) (ez2 : z2 = (if (kI h (rf h v0 22) (Int32.toNatClampNeg v3)) = (-1) then 0 else 1)), X G M Q 228 [(0, .ref v0), (1, .int z1), (3, .int v3)] [.int z2, .int v3, .ref (rf h v0 25)] h := by
        intro z2 ez2
        replace F := F _ ez2
        obtain ⟨c4, F⟩ := F
        obtain ⟨c5, F⟩ := F
        obtain ⟨c6, F⟩ := F
        obtain ⟨h3, eh3⟩ : ∃ z : Hp, z = wI h (rf h v0 25) (Int32.toNatClampNeg v3) z2 := ⟨_, rfl⟩
        replace F := F h3 eh3
        refine x_zastore hG hM d_Mo_fairly_228 c4 c5 c6 ?_
        rw [← eh3]
        clear eh3
        refine x_iinc (v := (v3 + 1)) (lv2 := [(3, .int (v3 + 1)), (0, .ref v0), (1, .int z1)]) hM d_Mo_fairly_229 (j := 2) rfl rfl (Nat.le_of_ble_eq_true rfl) rfl ?_
        refine x_goto (tgt := 171) hM d_Mo_fairly_232 (by decide) ?_
        refine x_sub [1, 2, 0] rfl ?_
        exact F
      refine x_icmp_eq (tgt := 227) hM d_Mo_fairly_220 (by decide) (fun q7 => ?_) (fun q7 => ?_)
      · refine x_iconst (v := 0) hM d_Mo_fairly_227 (by decide) ?_
        refine x_sub [1, 0, 2] rfl ?_
        exact JJ _ (Eq.symm (if_pos q7))
      · refine x_iconst (v := 1) hM d_Mo_fairly_223 (by decide) ?_
        refine x_goto (tgt := 228) hM d_Mo_fairly_224 (by decide) ?_
        refine x_sub [1, 0, 2] rfl ?_
        exact JJ _ (Eq.symm (if_neg q7))
    refine x_if_ne (tgt := 202) hM d_Mo_fairly_180 (by decide) (fun q14 => ?_) (fun q14 => ?_)
    · refine x_iconst (v := 1) hM d_Mo_fairly_202 (by decide) ?_
      refine x_goto (tgt := 207) hM d_Mo_fairly_203 (by decide) ?_
      refine x_sub [0, 2] rfl ?_
      exact JJ _ (Eq.symm (if_neg q14))
    · replace S := S q14
      refine x_aload_n hM d_Mo_fairly_183 rfl 0 rfl ?_
      obtain ⟨c15, S⟩ := S
      obtain ⟨c16, S⟩ := S
      refine x_getr hG hM ck_Mo 25 (Nat.le_of_ble_eq_true rfl) rfl rfl w_922 rfl d_Mo_fairly_184 c15 c16 ?_
      refine x_iload_n hM d_Mo_fairly_187 rfl 2 rfl ?_
      obtain ⟨c17, S⟩ := S
      obtain ⟨c18, S⟩ := S
      refine x_zaload hG hM d_Mo_fairly_188 c17 c18 ?_
      refine x_if_eq (tgt := 206) hM d_Mo_fairly_189 (by decide) (fun q19 => ?_) (fun q19 => ?_)
      · refine x_iconst (v := 0) hM d_Mo_fairly_206 (by decide) ?_
        refine x_sub [0, 2] rfl ?_
        exact JJ _ (Eq.symm (Eq.trans (if_pos q14) (if_pos q19)))
      · replace S := S q19
        refine x_aload_n hM d_Mo_fairly_192 rfl 0 rfl ?_
        obtain ⟨c20, S⟩ := S
        obtain ⟨c21, S⟩ := S
        refine x_getr hG hM ck_Mo 22 (Nat.le_of_ble_eq_true rfl) rfl rfl w_919 rfl d_Mo_fairly_193 c20 c21 ?_
        refine x_iload_n hM d_Mo_fairly_196 rfl 2 rfl ?_
        obtain ⟨c22, S⟩ := S
        have c23 := S
        refine x_iaload hG hM d_Mo_fairly_197 c22 c23 ?_
        refine x_iconst (v := (-1)) hM d_Mo_fairly_198 (by decide) ?_
        refine x_icmp_ne (tgt := 206) hM d_Mo_fairly_199 (by decide) (fun q24 => ?_) (fun q24 => ?_)
        · refine x_iconst (v := 0) hM d_Mo_fairly_206 (by decide) ?_
          refine x_sub [0, 2] rfl ?_
          exact JJ _ (Eq.symm (Eq.trans (if_pos q14) (Eq.trans (if_neg q19) (if_neg q24))))
        · refine x_iconst (v := 1) hM d_Mo_fairly_202 (by decide) ?_
          refine x_goto (tgt := 207) hM d_Mo_fairly_203 (by decide) ?_
          refine x_sub [0, 2] rfl ?_
          exact JJ _ (Eq.symm (Eq.trans (if_pos q14) (Eq.trans (if_neg q19) (if_pos q24))))
theorem d_Mo_staysWon_0 : decode b_Mo_staysWon 0 = .ok (.iconst 1, 1) := by decide +kernel
theorem d_Mo_staysWon_1 : decode b_Mo_staysWon 1 = .ok (.istore_n 3, 1) := by decide +kernel
theorem d_Mo_staysWon_2 : decode b_Mo_staysWon 2 = .ok (.iconst 0, 1) := by decide +kernel
theorem d_Mo_staysWon_3 : decode b_Mo_staysWon 3 = .ok (.istore 4, 2) := by decide +kernel
theorem d_Mo_staysWon_5 : decode b_Mo_staysWon 5 = .ok (.iload 4, 2) := by decide +kernel
theorem d_Mo_staysWon_7 : decode b_Mo_staysWon 7 = .ok (.aload_n 0, 1) := by decide +kernel
theorem d_Mo_staysWon_8 : decode b_Mo_staysWon 8 = .ok (.getfield 13, 3) := by decide +kernel
theorem d_Mo_staysWon_11 : decode b_Mo_staysWon 11 = .ok (.iload_n 2, 1) := by decide +kernel
theorem d_Mo_staysWon_12 : decode b_Mo_staysWon 12 = .ok (.iaload, 1) := by decide +kernel
theorem d_Mo_staysWon_13 : decode b_Mo_staysWon 13 = .ok (.if_icmp .ge 53, 3) := by decide +kernel
theorem d_Mo_staysWon_16 : decode b_Mo_staysWon 16 = .ok (.aload_n 0, 1) := by decide +kernel
theorem d_Mo_staysWon_17 : decode b_Mo_staysWon 17 = .ok (.getfield 35, 3) := by decide +kernel
theorem d_Mo_staysWon_20 : decode b_Mo_staysWon 20 = .ok (.bipush 36, 2) := by decide +kernel
theorem d_Mo_staysWon_22 : decode b_Mo_staysWon 22 = .ok (.iload_n 1, 1) := by decide +kernel
theorem d_Mo_staysWon_23 : decode b_Mo_staysWon 23 = .ok (.imul, 1) := by decide +kernel
theorem d_Mo_staysWon_24 : decode b_Mo_staysWon 24 = .ok (.iconst 3, 1) := by decide +kernel
theorem d_Mo_staysWon_25 : decode b_Mo_staysWon 25 = .ok (.iload_n 2, 1) := by decide +kernel
theorem d_Mo_staysWon_26 : decode b_Mo_staysWon 26 = .ok (.imul, 1) := by decide +kernel
theorem d_Mo_staysWon_27 : decode b_Mo_staysWon 27 = .ok (.iadd, 1) := by decide +kernel
theorem d_Mo_staysWon_28 : decode b_Mo_staysWon 28 = .ok (.iload 4, 2) := by decide +kernel
theorem d_Mo_staysWon_30 : decode b_Mo_staysWon 30 = .ok (.iadd, 1) := by decide +kernel
theorem d_Mo_staysWon_31 : decode b_Mo_staysWon 31 = .ok (.iaload, 1) := by decide +kernel
theorem d_Mo_staysWon_32 : decode b_Mo_staysWon 32 = .ok (.istore 5, 2) := by decide +kernel
theorem d_Mo_staysWon_34 : decode b_Mo_staysWon 34 = .ok (.iload_n 3, 1) := by decide +kernel
theorem d_Mo_staysWon_35 : decode b_Mo_staysWon 35 = .ok (.ifCond .eq 23, 3) := by decide +kernel
theorem d_Mo_staysWon_38 : decode b_Mo_staysWon 38 = .ok (.iload 5, 2) := by decide +kernel
theorem d_Mo_staysWon_40 : decode b_Mo_staysWon 40 = .ok (.iconst (-1), 1) := by decide +kernel
theorem d_Mo_staysWon_41 : decode b_Mo_staysWon 41 = .ok (.if_icmp .eq 17, 3) := by decide +kernel
theorem d_Mo_staysWon_44 : decode b_Mo_staysWon 44 = .ok (.aload_n 0, 1) := by decide +kernel
theorem d_Mo_staysWon_45 : decode b_Mo_staysWon 45 = .ok (.getfield 70, 3) := by decide +kernel
theorem d_Mo_staysWon_48 : decode b_Mo_staysWon 48 = .ok (.iload 5, 2) := by decide +kernel
theorem d_Mo_staysWon_50 : decode b_Mo_staysWon 50 = .ok (.baload, 1) := by decide +kernel
theorem d_Mo_staysWon_51 : decode b_Mo_staysWon 51 = .ok (.ifCond .eq 7, 3) := by decide +kernel
theorem d_Mo_staysWon_54 : decode b_Mo_staysWon 54 = .ok (.iconst 1, 1) := by decide +kernel
theorem d_Mo_staysWon_55 : decode b_Mo_staysWon 55 = .ok (.goto 4, 3) := by decide +kernel
theorem d_Mo_staysWon_58 : decode b_Mo_staysWon 58 = .ok (.iconst 0, 1) := by decide +kernel
theorem d_Mo_staysWon_59 : decode b_Mo_staysWon 59 = .ok (.istore_n 3, 1) := by decide +kernel
theorem d_Mo_staysWon_60 : decode b_Mo_staysWon 60 = .ok (.iinc 4 1, 3) := by decide +kernel
theorem d_Mo_staysWon_63 : decode b_Mo_staysWon 63 = .ok (.goto (-58), 3) := by decide +kernel
theorem d_Mo_staysWon_66 : decode b_Mo_staysWon 66 = .ok (.iload_n 3, 1) := by decide +kernel
theorem d_Mo_staysWon_67 : decode b_Mo_staysWon 67 = .ok (.ireturn, 1) := by decide +kernel
set_option maxRecDepth 100000 in
set_option maxHeartbeats 4000000 in
theorem S_Mo_staysWon_0 {G : Gc} {M : Mc} {Q : State → Prop} {K : Option Value → Hp → Prop} (hG : gok G) (hM : mok G M r_Mo_staysWon Q K) (v0 : Nat) (v1 : Int32) (v2 : Int32) (h : Hp) (F : X G M Q 5 [(0, .ref v0), (1, .int v1), (2, .int v2), (3, .int 1), (4, .int 0)] [] h) : X G M Q 0 [(0, .ref v0), (1, .int v1), (2, .int v2)] [] h := by
  refine x_iconst (v := 1) hM d_Mo_staysWon_0 (by decide) ?_
  refine x_istore_n (lv2 := [(3, .int 1), (0, .ref v0), (1, .int v1), (2, .int v2)]) hM d_Mo_staysWon_1 rfl (Nat.le_of_ble_eq_true rfl) rfl ?_
  refine x_iconst (v := 0) hM d_Mo_staysWon_2 (by decide) ?_
  refine x_istore (lv2 := [(4, .int 0), (3, .int 1), (0, .ref v0), (1, .int v1), (2, .int v2)]) hM d_Mo_staysWon_3 (Nat.le_of_ble_eq_true rfl) rfl ?_
  refine x_sub [2, 3, 4, 1, 0] rfl ?_
  exact F
set_option maxRecDepth 100000 in
set_option maxHeartbeats 4000000 in
theorem S_Mo_staysWon_5 {G : Gc} {M : Mc} {Q : State → Prop} {K : Option Value → Hp → Prop} (hG : gok G) (hM : mok G M r_Mo_staysWon Q K) (v0 : Nat) (v1 : Int32) (v2 : Int32) (v3 : Int32) (v4 : Int32) (h : Hp) (F : kT h v0 = 12 ∧ kR h v0 4 = some (rf h v0 4) ∧ (kT h (rf h v0 4) = 50 ∧ vp_in v2 (kN h (rf h v0 4)) ∧ (((kI h (rf h v0 4) (Int32.toNatClampNeg v2)) ≤ v4 → (nb v3 ∧ K (some (.int v3)) h)) ∧ (¬ (kI h (rf h v0 4) (Int32.toNatClampNeg v2)) ≤ v4 → (kT h v0 = 12 ∧ kR h v0 14 = some (rf h v0 14) ∧ (kT h (rf h v0 14) = 50 ∧ vp_in (((36 * v1) + (3 * v2)) + v4) (kN h (rf h v0 14)) ∧ ((¬ v3 = 0 → (¬ (kI h (rf h v0 14) (Int32.toNatClampNeg (((36 * v1) + (3 * v2)) + v4))) = (-1) → (kT h v0 = 12 ∧ kR h v0 25 = some (rf h v0 25) ∧ kT h (rf h v0 25) = 51 ∧ vp_in (kI h (rf h v0 14) (Int32.toNatClampNeg (((36 * v1) + (3 * v2)) + v4))) (kN h (rf h v0 25))))) ∧ (∀ z1 : Int32, z1 = (if v3 = 0 then 0 else (if (kI h (rf h v0 14) (Int32.toNatClampNeg (((36 * v1) + (3 * v2)) + v4))) = (-1) then 0 else (if (kI h (rf h v0 25) (Int32.toNatClampNeg (kI h (rf h v0 14) (Int32.toNatClampNeg (((36 * v1) + (3 * v2)) + v4))))) = 0 then 0 else 1))) → X G M Q 5 [(0, .ref v0), (1, .int v1), (2, .int v2), (3, .int z1), (4, .int (v4 + 1))] [] h)))))))) : X G M Q 5 [(0, .ref v0), (1, .int v1), (2, .int v2), (3, .int v3), (4, .int v4)] [] h := by
  refine x_iload hM d_Mo_staysWon_5 4 rfl ?_
  refine x_aload_n hM d_Mo_staysWon_7 rfl 0 rfl ?_
  obtain ⟨c16, F⟩ := F
  obtain ⟨c17, F⟩ := F
  refine x_getr hG hM ck_Mo 4 (Nat.le_of_ble_eq_true rfl) rfl rfl w_901 rfl d_Mo_staysWon_8 c16 c17 ?_
  refine x_iload_n hM d_Mo_staysWon_11 rfl 2 rfl ?_
  obtain ⟨c14, F⟩ := F
  obtain ⟨c15, F⟩ := F
  refine x_iaload hG hM d_Mo_staysWon_12 c14 c15 ?_
  refine x_icmp_ge (tgt := 66) hM d_Mo_staysWon_13 (by decide) (fun q13 => ?_) (fun q13 => ?_)
  · replace F := F.1 q13
    refine x_iload_n hM d_Mo_staysWon_66 rfl 3 rfl ?_
    exact x_zreturn hM d_Mo_staysWon_67 rfl F.1 F.2
  · replace F := F.2 q13
    refine x_aload_n hM d_Mo_staysWon_16 rfl 0 rfl ?_
    obtain ⟨c11, F⟩ := F
    obtain ⟨c12, F⟩ := F
    refine x_getr hG hM ck_Mo 14 (Nat.le_of_ble_eq_true rfl) rfl rfl w_911 rfl d_Mo_staysWon_17 c11 c12 ?_
    refine x_bipush (v := 36) hM d_Mo_staysWon_20 (by decide) ?_
    refine x_iload_n hM d_Mo_staysWon_22 rfl 1 rfl ?_
    refine x_imul hM d_Mo_staysWon_23 ?_
    refine x_iconst (v := 3) hM d_Mo_staysWon_24 (by decide) ?_
    refine x_iload_n hM d_Mo_staysWon_25 rfl 2 rfl ?_
    refine x_imul hM d_Mo_staysWon_26 ?_
    refine x_iadd hM d_Mo_staysWon_27 ?_
    refine x_iload hM d_Mo_staysWon_28 4 rfl ?_
    refine x_iadd hM d_Mo_staysWon_30 ?_
    obtain ⟨c9, F⟩ := F
    obtain ⟨c10, F⟩ := F
    refine x_iaload hG hM d_Mo_staysWon_31 c9 c10 ?_
    refine x_istore (lv2 := [(5, .int (kI h (rf h v0 14) (Int32.toNatClampNeg (((36 * v1) + (3 * v2)) + v4)))), (0, .ref v0), (1, .int v1), (2, .int v2), (3, .int v3), (4, .int v4)]) hM d_Mo_staysWon_32 (Nat.le_of_ble_eq_true rfl) rfl ?_
    refine x_iload_n hM d_Mo_staysWon_34 rfl 4 rfl ?_
    obtain ⟨S, F⟩ := F
    have JJ : ∀ (z1 : Int32) (ez1 : z1 = (if v3 = 0 then 0 else (if (kI h (rf h v0 14) (Int32.toNatClampNeg (((36 * v1) + (3 * v2)) + v4))) = (-1) then 0 else (if (kI h (rf h v0 25) (Int32.toNatClampNeg (kI h (rf h v0 14) (Int32.toNatClampNeg (((36 * v1) + (3 * v2)) + v4))))) = 0 then 0 else 1)))), X G M Q 59 [(0, .ref v0), (1, .int v1), (2, .int v2), (4, .int v4)] [.int z1] h := by
      intro z1 ez1
      replace F := F _ ez1
      refine x_istore_n (lv2 := [(3, .int z1), (0, .ref v0), (1, .int v1), (2, .int v2), (4, .int v4)]) hM d_Mo_staysWon_59 rfl (Nat.le_of_ble_eq_true rfl) rfl ?_
      refine x_iinc (v := (v4 + 1)) (lv2 := [(4, .int (v4 + 1)), (3, .int z1), (0, .ref v0), (1, .int v1), (2, .int v2)]) hM d_Mo_staysWon_60 (j := 4) rfl rfl (Nat.le_of_ble_eq_true rfl) rfl ?_
      refine x_goto (tgt := 5) hM d_Mo_staysWon_63 (by decide) ?_
      refine x_sub [2, 3, 4, 1, 0] rfl ?_
      exact F
    refine x_if_eq (tgt := 58) hM d_Mo_staysWon_35 (by decide) (fun q2 => ?_) (fun q2 => ?_)
    · refine x_iconst (v := 0) hM d_Mo_staysWon_58 (by decide) ?_
      refine x_sub [1, 2, 3, 5] rfl ?_
      exact JJ _ (Eq.symm (if_pos q2))
    · replace S := S q2
      refine x_iload hM d_Mo_staysWon_38 0 rfl ?_
      refine x_iconst (v := (-1)) hM d_Mo_staysWon_40 (by decide) ?_
      refine x_icmp_eq (tgt := 58) hM d_Mo_staysWon_41 (by decide) (fun q3 => ?_) (fun q3 => ?_)
      · refine x_iconst (v := 0) hM d_Mo_staysWon_58 (by decide) ?_
        refine x_sub [1, 2, 3, 5] rfl ?_
        exact JJ _ (Eq.symm (Eq.trans (if_neg q2) (if_pos q3)))
      · replace S := S q3
        refine x_aload_n hM d_Mo_staysWon_44 rfl 1 rfl ?_
        obtain ⟨c4, S⟩ := S
        obtain ⟨c5, S⟩ := S
        refine x_getr hG hM ck_Mo 25 (Nat.le_of_ble_eq_true rfl) rfl rfl w_922 rfl d_Mo_staysWon_45 c4 c5 ?_
        refine x_iload hM d_Mo_staysWon_48 0 rfl ?_
        obtain ⟨c6, S⟩ := S
        have c7 := S
        refine x_zaload hG hM d_Mo_staysWon_50 c6 c7 ?_
        refine x_if_eq (tgt := 58) hM d_Mo_staysWon_51 (by decide) (fun q8 => ?_) (fun q8 => ?_)
        · refine x_iconst (v := 0) hM d_Mo_staysWon_58 (by decide) ?_
          refine x_sub [1, 2, 3, 5] rfl ?_
          exact JJ _ (Eq.symm (Eq.trans (if_neg q2) (Eq.trans (if_neg q3) (if_pos q8))))
        · refine x_iconst (v := 1) hM d_Mo_staysWon_54 (by decide) ?_
          refine x_goto (tgt := 59) hM d_Mo_staysWon_55 (by decide) ?_
          refine x_sub [1, 2, 3, 5] rfl ?_
          exact JJ _ (Eq.symm (Eq.trans (if_neg q2) (Eq.trans (if_neg q3) (if_neg q8))))
