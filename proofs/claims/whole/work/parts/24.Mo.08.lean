theorem d_Mo_partAll_0 : decode b_Mo_partAll 0 = .ok (.aload_n 0, 1) := by decide +kernel
theorem d_Mo_partAll_1 : decode b_Mo_partAll 1 = .ok (.invokevirtual 191, 3) := by decide +kernel
theorem d_Mo_partAll_4 : decode b_Mo_partAll 4 = .ok (.aload_n 0, 1) := by decide +kernel
theorem d_Mo_partAll_5 : decode b_Mo_partAll 5 = .ok (.getfield 102, 3) := by decide +kernel
theorem d_Mo_partAll_8 : decode b_Mo_partAll 8 = .ok (.ifCond .eq 4, 3) := by decide +kernel
theorem d_Mo_partAll_11 : decode b_Mo_partAll 11 = .ok (.return_, 1) := by decide +kernel
theorem d_Mo_partAll_12 : decode b_Mo_partAll 12 = .ok (.aload_n 0, 1) := by decide +kernel
theorem d_Mo_partAll_13 : decode b_Mo_partAll 13 = .ok (.iconst 1, 1) := by decide +kernel
theorem d_Mo_partAll_14 : decode b_Mo_partAll 14 = .ok (.putfield 102, 3) := by decide +kernel
theorem d_Mo_partAll_17 : decode b_Mo_partAll 17 = .ok (.iconst 0, 1) := by decide +kernel
theorem d_Mo_partAll_18 : decode b_Mo_partAll 18 = .ok (.istore_n 1, 1) := by decide +kernel
theorem d_Mo_partAll_19 : decode b_Mo_partAll 19 = .ok (.iconst 0, 1) := by decide +kernel
theorem d_Mo_partAll_20 : decode b_Mo_partAll 20 = .ok (.istore_n 2, 1) := by decide +kernel
theorem d_Mo_partAll_21 : decode b_Mo_partAll 21 = .ok (.iload_n 2, 1) := by decide +kernel
theorem d_Mo_partAll_22 : decode b_Mo_partAll 22 = .ok (.aload_n 0, 1) := by decide +kernel
theorem d_Mo_partAll_23 : decode b_Mo_partAll 23 = .ok (.getfield 157, 3) := by decide +kernel
theorem d_Mo_partAll_26 : decode b_Mo_partAll 26 = .ok (.if_icmp .ge 29, 3) := by decide +kernel
theorem d_Mo_partAll_29 : decode b_Mo_partAll 29 = .ok (.aload_n 0, 1) := by decide +kernel
theorem d_Mo_partAll_30 : decode b_Mo_partAll 30 = .ok (.getfield 73, 3) := by decide +kernel
theorem d_Mo_partAll_33 : decode b_Mo_partAll 33 = .ok (.iload_n 2, 1) := by decide +kernel
theorem d_Mo_partAll_34 : decode b_Mo_partAll 34 = .ok (.aload_n 0, 1) := by decide +kernel
theorem d_Mo_partAll_35 : decode b_Mo_partAll 35 = .ok (.getfield 38, 3) := by decide +kernel
theorem d_Mo_partAll_38 : decode b_Mo_partAll 38 = .ok (.iload_n 2, 1) := by decide +kernel
theorem d_Mo_partAll_39 : decode b_Mo_partAll 39 = .ok (.baload, 1) := by decide +kernel
theorem d_Mo_partAll_40 : decode b_Mo_partAll 40 = .ok (.ifCond .eq 7, 3) := by decide +kernel
theorem d_Mo_partAll_43 : decode b_Mo_partAll 43 = .ok (.iconst 1, 1) := by decide +kernel
theorem d_Mo_partAll_44 : decode b_Mo_partAll 44 = .ok (.goto 4, 3) := by decide +kernel
theorem d_Mo_partAll_47 : decode b_Mo_partAll 47 = .ok (.iconst 0, 1) := by decide +kernel
theorem d_Mo_partAll_48 : decode b_Mo_partAll 48 = .ok (.iastore, 1) := by decide +kernel
theorem d_Mo_partAll_49 : decode b_Mo_partAll 49 = .ok (.iinc 2 1, 3) := by decide +kernel
theorem d_Mo_partAll_52 : decode b_Mo_partAll 52 = .ok (.goto (-31), 3) := by decide +kernel
theorem d_Mo_partAll_55 : decode b_Mo_partAll 55 = .ok (.aload_n 0, 1) := by decide +kernel
theorem d_Mo_partAll_56 : decode b_Mo_partAll 56 = .ok (.iconst 1, 1) := by decide +kernel
theorem d_Mo_partAll_57 : decode b_Mo_partAll 57 = .ok (.putfield 194, 3) := by decide +kernel
theorem d_Mo_partAll_60 : decode b_Mo_partAll 60 = .ok (.iconst 1, 1) := by decide +kernel
theorem d_Mo_partAll_61 : decode b_Mo_partAll 61 = .ok (.istore_n 2, 1) := by decide +kernel
theorem d_Mo_partAll_62 : decode b_Mo_partAll 62 = .ok (.iload_n 2, 1) := by decide +kernel
theorem d_Mo_partAll_63 : decode b_Mo_partAll 63 = .ok (.ifCond .eq 237, 3) := by decide +kernel
theorem d_Mo_partAll_66 : decode b_Mo_partAll 66 = .ok (.iconst 0, 1) := by decide +kernel
theorem d_Mo_partAll_67 : decode b_Mo_partAll 67 = .ok (.istore_n 3, 1) := by decide +kernel
theorem d_Mo_partAll_68 : decode b_Mo_partAll 68 = .ok (.iload_n 3, 1) := by decide +kernel
theorem d_Mo_partAll_69 : decode b_Mo_partAll 69 = .ok (.sipush 8192, 3) := by decide +kernel
theorem d_Mo_partAll_72 : decode b_Mo_partAll 72 = .ok (.if_icmp .ge 16, 3) := by decide +kernel
theorem d_Mo_partAll_75 : decode b_Mo_partAll 75 = .ok (.aload_n 0, 1) := by decide +kernel
theorem d_Mo_partAll_76 : decode b_Mo_partAll 76 = .ok (.getfield 83, 3) := by decide +kernel
theorem d_Mo_partAll_79 : decode b_Mo_partAll 79 = .ok (.iload_n 3, 1) := by decide +kernel
theorem d_Mo_partAll_80 : decode b_Mo_partAll 80 = .ok (.iconst (-1), 1) := by decide +kernel
theorem d_Mo_partAll_81 : decode b_Mo_partAll 81 = .ok (.iastore, 1) := by decide +kernel
theorem d_Mo_partAll_82 : decode b_Mo_partAll 82 = .ok (.iinc 3 1, 3) := by decide +kernel
theorem d_Mo_partAll_85 : decode b_Mo_partAll 85 = .ok (.goto (-17), 3) := by decide +kernel
theorem d_Mo_partAll_88 : decode b_Mo_partAll 88 = .ok (.aload_n 0, 1) := by decide +kernel
theorem d_Mo_partAll_89 : decode b_Mo_partAll 89 = .ok (.iconst 0, 1) := by decide +kernel
theorem d_Mo_partAll_90 : decode b_Mo_partAll 90 = .ok (.putfield 194, 3) := by decide +kernel
theorem d_Mo_partAll_93 : decode b_Mo_partAll 93 = .ok (.iconst 0, 1) := by decide +kernel
theorem d_Mo_partAll_94 : decode b_Mo_partAll 94 = .ok (.istore_n 3, 1) := by decide +kernel
theorem d_Mo_partAll_95 : decode b_Mo_partAll 95 = .ok (.iload_n 3, 1) := by decide +kernel
theorem d_Mo_partAll_96 : decode b_Mo_partAll 96 = .ok (.aload_n 0, 1) := by decide +kernel
theorem d_Mo_partAll_97 : decode b_Mo_partAll 97 = .ok (.getfield 157, 3) := by decide +kernel
theorem d_Mo_partAll_100 : decode b_Mo_partAll 100 = .ok (.if_icmp .ge 150, 3) := by decide +kernel
theorem d_Mo_partAll_103 : decode b_Mo_partAll 103 = .ok (.aload_n 0, 1) := by decide +kernel
theorem d_Mo_partAll_104 : decode b_Mo_partAll 104 = .ok (.getfield 79, 3) := by decide +kernel
theorem d_Mo_partAll_107 : decode b_Mo_partAll 107 = .ok (.iload_n 3, 1) := by decide +kernel
theorem d_Mo_partAll_108 : decode b_Mo_partAll 108 = .ok (.aload_n 0, 1) := by decide +kernel
theorem d_Mo_partAll_109 : decode b_Mo_partAll 109 = .ok (.iload_n 3, 1) := by decide +kernel
theorem d_Mo_partAll_110 : decode b_Mo_partAll 110 = .ok (.invokevirtual 197, 3) := by decide +kernel
theorem d_Mo_partAll_113 : decode b_Mo_partAll 113 = .ok (.lastore, 1) := by decide +kernel
theorem d_Mo_partAll_114 : decode b_Mo_partAll 114 = .ok (.aload_n 0, 1) := by decide +kernel
theorem d_Mo_partAll_115 : decode b_Mo_partAll 115 = .ok (.getfield 79, 3) := by decide +kernel
theorem d_Mo_partAll_118 : decode b_Mo_partAll 118 = .ok (.iload_n 3, 1) := by decide +kernel
theorem d_Mo_partAll_119 : decode b_Mo_partAll 119 = .ok (.laload, 1) := by decide +kernel
theorem d_Mo_partAll_120 : decode b_Mo_partAll 120 = .ok (.ldc2_w 201, 3) := by decide +kernel
theorem d_Mo_partAll_123 : decode b_Mo_partAll 123 = .ok (.land, 1) := by decide +kernel
theorem d_Mo_partAll_124 : decode b_Mo_partAll 124 = .ok (.l2i, 1) := by decide +kernel
theorem d_Mo_partAll_125 : decode b_Mo_partAll 125 = .ok (.istore 4, 2) := by decide +kernel
theorem d_Mo_partAll_127 : decode b_Mo_partAll 127 = .ok (.aload_n 0, 1) := by decide +kernel
theorem d_Mo_partAll_128 : decode b_Mo_partAll 128 = .ok (.getfield 83, 3) := by decide +kernel
theorem d_Mo_partAll_131 : decode b_Mo_partAll 131 = .ok (.iload 4, 2) := by decide +kernel
theorem d_Mo_partAll_133 : decode b_Mo_partAll 133 = .ok (.iaload, 1) := by decide +kernel
theorem d_Mo_partAll_134 : decode b_Mo_partAll 134 = .ok (.istore 5, 2) := by decide +kernel
theorem d_Mo_partAll_136 : decode b_Mo_partAll 136 = .ok (.iload 5, 2) := by decide +kernel
theorem d_Mo_partAll_138 : decode b_Mo_partAll 138 = .ok (.iconst (-1), 1) := by decide +kernel
theorem d_Mo_partAll_139 : decode b_Mo_partAll 139 = .ok (.if_icmp .eq 42, 3) := by decide +kernel
theorem d_Mo_partAll_142 : decode b_Mo_partAll 142 = .ok (.aload_n 0, 1) := by decide +kernel
theorem d_Mo_partAll_143 : decode b_Mo_partAll 143 = .ok (.getfield 79, 3) := by decide +kernel
theorem d_Mo_partAll_146 : decode b_Mo_partAll 146 = .ok (.iload 5, 2) := by decide +kernel
theorem d_Mo_partAll_148 : decode b_Mo_partAll 148 = .ok (.laload, 1) := by decide +kernel
theorem d_Mo_partAll_149 : decode b_Mo_partAll 149 = .ok (.aload_n 0, 1) := by decide +kernel
theorem d_Mo_partAll_150 : decode b_Mo_partAll 150 = .ok (.getfield 79, 3) := by decide +kernel
theorem d_Mo_partAll_153 : decode b_Mo_partAll 153 = .ok (.iload_n 3, 1) := by decide +kernel
theorem d_Mo_partAll_154 : decode b_Mo_partAll 154 = .ok (.laload, 1) := by decide +kernel
theorem d_Mo_partAll_155 : decode b_Mo_partAll 155 = .ok (.lcmp, 1) := by decide +kernel
theorem d_Mo_partAll_156 : decode b_Mo_partAll 156 = .ok (.ifCond .ne 13, 3) := by decide +kernel
theorem d_Mo_partAll_159 : decode b_Mo_partAll 159 = .ok (.aload_n 0, 1) := by decide +kernel
theorem d_Mo_partAll_160 : decode b_Mo_partAll 160 = .ok (.iload_n 3, 1) := by decide +kernel
theorem d_Mo_partAll_161 : decode b_Mo_partAll 161 = .ok (.iload 5, 2) := by decide +kernel
theorem d_Mo_partAll_163 : decode b_Mo_partAll 163 = .ok (.invokevirtual 203, 3) := by decide +kernel
theorem d_Mo_partAll_166 : decode b_Mo_partAll 166 = .ok (.ifCond .ne 15, 3) := by decide +kernel
theorem d_Mo_partAll_169 : decode b_Mo_partAll 169 = .ok (.aload_n 0, 1) := by decide +kernel
theorem d_Mo_partAll_170 : decode b_Mo_partAll 170 = .ok (.getfield 86, 3) := by decide +kernel
theorem d_Mo_partAll_173 : decode b_Mo_partAll 173 = .ok (.iload 5, 2) := by decide +kernel
theorem d_Mo_partAll_175 : decode b_Mo_partAll 175 = .ok (.iaload, 1) := by decide +kernel
theorem d_Mo_partAll_176 : decode b_Mo_partAll 176 = .ok (.istore 5, 2) := by decide +kernel
theorem d_Mo_partAll_178 : decode b_Mo_partAll 178 = .ok (.goto (-42), 3) := by decide +kernel
theorem d_Mo_partAll_181 : decode b_Mo_partAll 181 = .ok (.iload 5, 2) := by decide +kernel
theorem d_Mo_partAll_183 : decode b_Mo_partAll 183 = .ok (.iconst (-1), 1) := by decide +kernel
theorem d_Mo_partAll_184 : decode b_Mo_partAll 184 = .ok (.if_icmp .ne 47, 3) := by decide +kernel
theorem d_Mo_partAll_187 : decode b_Mo_partAll 187 = .ok (.aload_n 0, 1) := by decide +kernel
theorem d_Mo_partAll_188 : decode b_Mo_partAll 188 = .ok (.getfield 76, 3) := by decide +kernel
theorem d_Mo_partAll_191 : decode b_Mo_partAll 191 = .ok (.iload_n 3, 1) := by decide +kernel
theorem d_Mo_partAll_192 : decode b_Mo_partAll 192 = .ok (.aload_n 0, 1) := by decide +kernel
theorem d_Mo_partAll_193 : decode b_Mo_partAll 193 = .ok (.getfield 194, 3) := by decide +kernel
theorem d_Mo_partAll_196 : decode b_Mo_partAll 196 = .ok (.iastore, 1) := by decide +kernel
theorem d_Mo_partAll_197 : decode b_Mo_partAll 197 = .ok (.aload_n 0, 1) := by decide +kernel
theorem d_Mo_partAll_198 : decode b_Mo_partAll 198 = .ok (.dup, 1) := by decide +kernel
theorem d_Mo_partAll_199 : decode b_Mo_partAll 199 = .ok (.getfield 194, 3) := by decide +kernel
theorem d_Mo_partAll_202 : decode b_Mo_partAll 202 = .ok (.iconst 1, 1) := by decide +kernel
theorem d_Mo_partAll_203 : decode b_Mo_partAll 203 = .ok (.iadd, 1) := by decide +kernel
theorem d_Mo_partAll_204 : decode b_Mo_partAll 204 = .ok (.putfield 194, 3) := by decide +kernel
theorem d_Mo_partAll_207 : decode b_Mo_partAll 207 = .ok (.aload_n 0, 1) := by decide +kernel
theorem d_Mo_partAll_208 : decode b_Mo_partAll 208 = .ok (.getfield 86, 3) := by decide +kernel
theorem d_Mo_partAll_211 : decode b_Mo_partAll 211 = .ok (.iload_n 3, 1) := by decide +kernel
theorem d_Mo_partAll_212 : decode b_Mo_partAll 212 = .ok (.aload_n 0, 1) := by decide +kernel
theorem d_Mo_partAll_213 : decode b_Mo_partAll 213 = .ok (.getfield 83, 3) := by decide +kernel
theorem d_Mo_partAll_216 : decode b_Mo_partAll 216 = .ok (.iload 4, 2) := by decide +kernel
theorem d_Mo_partAll_218 : decode b_Mo_partAll 218 = .ok (.iaload, 1) := by decide +kernel
theorem d_Mo_partAll_219 : decode b_Mo_partAll 219 = .ok (.iastore, 1) := by decide +kernel
theorem d_Mo_partAll_220 : decode b_Mo_partAll 220 = .ok (.aload_n 0, 1) := by decide +kernel
theorem d_Mo_partAll_221 : decode b_Mo_partAll 221 = .ok (.getfield 83, 3) := by decide +kernel
theorem d_Mo_partAll_224 : decode b_Mo_partAll 224 = .ok (.iload 4, 2) := by decide +kernel
theorem d_Mo_partAll_226 : decode b_Mo_partAll 226 = .ok (.iload_n 3, 1) := by decide +kernel
theorem d_Mo_partAll_227 : decode b_Mo_partAll 227 = .ok (.iastore, 1) := by decide +kernel
theorem d_Mo_partAll_228 : decode b_Mo_partAll 228 = .ok (.goto 16, 3) := by decide +kernel
theorem d_Mo_partAll_231 : decode b_Mo_partAll 231 = .ok (.aload_n 0, 1) := by decide +kernel
theorem d_Mo_partAll_232 : decode b_Mo_partAll 232 = .ok (.getfield 76, 3) := by decide +kernel
theorem d_Mo_partAll_235 : decode b_Mo_partAll 235 = .ok (.iload_n 3, 1) := by decide +kernel
theorem d_Mo_partAll_236 : decode b_Mo_partAll 236 = .ok (.aload_n 0, 1) := by decide +kernel
theorem d_Mo_partAll_237 : decode b_Mo_partAll 237 = .ok (.getfield 76, 3) := by decide +kernel
theorem d_Mo_partAll_240 : decode b_Mo_partAll 240 = .ok (.iload 5, 2) := by decide +kernel
theorem d_Mo_partAll_242 : decode b_Mo_partAll 242 = .ok (.iaload, 1) := by decide +kernel
theorem d_Mo_partAll_243 : decode b_Mo_partAll 243 = .ok (.iastore, 1) := by decide +kernel
theorem d_Mo_partAll_244 : decode b_Mo_partAll 244 = .ok (.iinc 3 1, 3) := by decide +kernel
theorem d_Mo_partAll_247 : decode b_Mo_partAll 247 = .ok (.goto (-152), 3) := by decide +kernel
theorem d_Mo_partAll_250 : decode b_Mo_partAll 250 = .ok (.iconst 0, 1) := by decide +kernel
theorem d_Mo_partAll_251 : decode b_Mo_partAll 251 = .ok (.istore_n 3, 1) := by decide +kernel
theorem d_Mo_partAll_252 : decode b_Mo_partAll 252 = .ok (.iload_n 3, 1) := by decide +kernel
theorem d_Mo_partAll_253 : decode b_Mo_partAll 253 = .ok (.aload_n 0, 1) := by decide +kernel
theorem d_Mo_partAll_254 : decode b_Mo_partAll 254 = .ok (.getfield 157, 3) := by decide +kernel
theorem d_Mo_partAll_257 : decode b_Mo_partAll 257 = .ok (.if_icmp .ge 21, 3) := by decide +kernel
theorem d_Mo_partAll_260 : decode b_Mo_partAll 260 = .ok (.aload_n 0, 1) := by decide +kernel
theorem d_Mo_partAll_261 : decode b_Mo_partAll 261 = .ok (.getfield 73, 3) := by decide +kernel
theorem d_Mo_partAll_264 : decode b_Mo_partAll 264 = .ok (.iload_n 3, 1) := by decide +kernel
theorem d_Mo_partAll_265 : decode b_Mo_partAll 265 = .ok (.aload_n 0, 1) := by decide +kernel
theorem d_Mo_partAll_266 : decode b_Mo_partAll 266 = .ok (.getfield 76, 3) := by decide +kernel
theorem d_Mo_partAll_269 : decode b_Mo_partAll 269 = .ok (.iload_n 3, 1) := by decide +kernel
theorem d_Mo_partAll_270 : decode b_Mo_partAll 270 = .ok (.iaload, 1) := by decide +kernel
theorem d_Mo_partAll_271 : decode b_Mo_partAll 271 = .ok (.iastore, 1) := by decide +kernel
theorem d_Mo_partAll_272 : decode b_Mo_partAll 272 = .ok (.iinc 3 1, 3) := by decide +kernel
theorem d_Mo_partAll_275 : decode b_Mo_partAll 275 = .ok (.goto (-23), 3) := by decide +kernel
theorem d_Mo_partAll_278 : decode b_Mo_partAll 278 = .ok (.aload_n 0, 1) := by decide +kernel
theorem d_Mo_partAll_279 : decode b_Mo_partAll 279 = .ok (.getfield 194, 3) := by decide +kernel
theorem d_Mo_partAll_282 : decode b_Mo_partAll 282 = .ok (.iload_n 1, 1) := by decide +kernel
theorem d_Mo_partAll_283 : decode b_Mo_partAll 283 = .ok (.if_icmp .eq 7, 3) := by decide +kernel
theorem d_Mo_partAll_286 : decode b_Mo_partAll 286 = .ok (.iconst 1, 1) := by decide +kernel
theorem d_Mo_partAll_287 : decode b_Mo_partAll 287 = .ok (.goto 4, 3) := by decide +kernel
theorem d_Mo_partAll_290 : decode b_Mo_partAll 290 = .ok (.iconst 0, 1) := by decide +kernel
theorem d_Mo_partAll_291 : decode b_Mo_partAll 291 = .ok (.istore_n 2, 1) := by decide +kernel
theorem d_Mo_partAll_292 : decode b_Mo_partAll 292 = .ok (.aload_n 0, 1) := by decide +kernel
theorem d_Mo_partAll_293 : decode b_Mo_partAll 293 = .ok (.getfield 194, 3) := by decide +kernel
theorem d_Mo_partAll_296 : decode b_Mo_partAll 296 = .ok (.istore_n 1, 1) := by decide +kernel
theorem d_Mo_partAll_297 : decode b_Mo_partAll 297 = .ok (.goto (-235), 3) := by decide +kernel
theorem d_Mo_partAll_300 : decode b_Mo_partAll 300 = .ok (.return_, 1) := by decide +kernel
set_option maxRecDepth 100000 in
set_option maxHeartbeats 4000000 in
theorem S_Mo_partAll_0 {G : Gc} {M : Mc} {Q : State → Prop} {K : Option Value → Hp → Prop} (hG : gok G) (hM : mok G M r_Mo_partAll Q K) (v0 : Nat) (h : Hp) (F : kT h v0 = 12 ∧ sem G r_Mo_lay [.ref v0] h (fun u2 h1 => u2 = none ∧ (kT h1 v0 = 12 ∧ (((kI h1 v0 26) = 0 → (kT h1 v0 = 12 ∧ (∀ h3 : Hp, h3 = wI h1 v0 26 1 → X G M Q 21 [(0, .ref v0), (1, .int 0), (2, .int 0)] [] h3))) ∧ (¬ (kI h1 v0 26) = 0 → K none h1))))) : X G M Q 0 [(0, .ref v0)] [] h := by
  refine x_aload_n hM d_Mo_partAll_0 rfl 0 rfl ?_
  obtain ⟨c7, F⟩ := F
  refine x_callV hG hM (r' := r_Mo_lay) (ci := 11) [] rfl rfl (Nat.le_of_ble_eq_true rfl) yk_Mo_lay ⟨Nat.le_of_ble_eq_true rfl, Nat.le_of_ble_eq_true rfl⟩ w_1112 w_1114 ws_Mo_lay rfl rfl (Nat.le_of_ble_eq_true rfl) d_Mo_partAll_1 c7 (sem_mono F ?_)
  intro u2 h1 F
  obtain ⟨rfl, F⟩ := F
  refine x_aload_n hM d_Mo_partAll_4 rfl 0 rfl ?_
  obtain ⟨c6, F⟩ := F
  refine x_geti hG hM ck_Mo 26 (Nat.le_of_ble_eq_true rfl) rfl rfl w_923 rfl d_Mo_partAll_5 c6 ?_
  refine x_if_eq (tgt := 12) hM d_Mo_partAll_8 (by decide) (fun q5 => ?_) (fun q5 => ?_)
  · replace F := F.1 q5
    refine x_aload_n hM d_Mo_partAll_12 rfl 0 rfl ?_
    refine x_iconst (v := 1) hM d_Mo_partAll_13 (by decide) ?_
    obtain ⟨c4, F⟩ := F
    obtain ⟨h3, eh3⟩ : ∃ z : Hp, z = wI h1 v0 26 1 := ⟨_, rfl⟩
    replace F := F h3 eh3
    refine x_putz hG hM ck_Mo 26 (Nat.le_of_ble_eq_true rfl) rfl rfl w_923 rfl d_Mo_partAll_14 (Or.inl rfl) c4 (Or.inr rfl) ?_
    rw [← eh3]
    clear eh3
    refine x_iconst (v := 0) hM d_Mo_partAll_17 (by decide) ?_
    refine x_istore_n (lv2 := [(1, .int 0), (0, .ref v0)]) hM d_Mo_partAll_18 rfl (Nat.le_of_ble_eq_true rfl) rfl ?_
    refine x_iconst (v := 0) hM d_Mo_partAll_19 (by decide) ?_
    refine x_istore_n (lv2 := [(2, .int 0), (1, .int 0), (0, .ref v0)]) hM d_Mo_partAll_20 rfl (Nat.le_of_ble_eq_true rfl) rfl ?_
    refine x_sub [2, 1, 0] rfl ?_
    exact F
  · replace F := F.2 q5
    exact x_return hM d_Mo_partAll_11 rfl F
set_option maxRecDepth 100000 in
set_option maxHeartbeats 4000000 in
theorem S_Mo_partAll_21 {G : Gc} {M : Mc} {Q : State → Prop} {K : Option Value → Hp → Prop} (hG : gok G) (hM : mok G M r_Mo_partAll Q K) (v0 : Nat) (v1 : Int32) (v2 : Int32) (h : Hp) (F : kT h v0 = 12 ∧ (((kI h v0 13) ≤ v2 → (kT h v0 = 12 ∧ (∀ h1 : Hp, h1 = wI h v0 32 1 → X G M Q 62 [(0, .ref v0), (1, .int v1), (2, .int 1)] [] h1))) ∧ (¬ (kI h v0 13) ≤ v2 → (kT h v0 = 12 ∧ kR h v0 27 = some (rf h v0 27) ∧ (kT h v0 = 12 ∧ kR h v0 15 = some (rf h v0 15) ∧ (kT h (rf h v0 15) = 51 ∧ vp_in v2 (kN h (rf h v0 15)) ∧ (∀ z3 : Int32, z3 = (if (kI h (rf h v0 15) (Int32.toNatClampNeg v2)) = 0 then 0 else 1) → (kT h (rf h v0 27) = 50 ∧ vp_in v2 (kN h (rf h v0 27)) ∧ (∀ h4 : Hp, h4 = wI h (rf h v0 27) (Int32.toNatClampNeg v2) z3 → X G M Q 21 [(0, .ref v0), (1, .int v1), (2, .int (v2 + 1))] [] h4))))))))) : X G M Q 21 [(0, .ref v0), (1, .int v1), (2, .int v2)] [] h := by
  refine x_iload_n hM d_Mo_partAll_21 rfl 2 rfl ?_
  refine x_aload_n hM d_Mo_partAll_22 rfl 0 rfl ?_
  obtain ⟨c15, F⟩ := F
  refine x_geti hG hM ck_Mo 13 (Nat.le_of_ble_eq_true rfl) rfl rfl w_910 rfl d_Mo_partAll_23 c15 ?_
  refine x_icmp_ge (tgt := 55) hM d_Mo_partAll_26 (by decide) (fun q14 => ?_) (fun q14 => ?_)
  · replace F := F.1 q14
    refine x_aload_n hM d_Mo_partAll_55 rfl 0 rfl ?_
    refine x_iconst (v := 1) hM d_Mo_partAll_56 (by decide) ?_
    obtain ⟨c2, F⟩ := F
    obtain ⟨h1, eh1⟩ : ∃ z : Hp, z = wI h v0 32 1 := ⟨_, rfl⟩
    replace F := F h1 eh1
    refine x_puti hG hM ck_Mo 32 (Nat.le_of_ble_eq_true rfl) rfl rfl w_929 rfl d_Mo_partAll_57 (Or.inl rfl) c2 ?_
    rw [← eh1]
    clear eh1
    refine x_iconst (v := 1) hM d_Mo_partAll_60 (by decide) ?_
    refine x_istore_n (lv2 := [(2, .int 1), (0, .ref v0), (1, .int v1)]) hM d_Mo_partAll_61 rfl (Nat.le_of_ble_eq_true rfl) rfl ?_
    refine x_sub [1, 2, 0] rfl ?_
    exact F
  · replace F := F.2 q14
    refine x_aload_n hM d_Mo_partAll_29 rfl 0 rfl ?_
    obtain ⟨c12, F⟩ := F
    obtain ⟨c13, F⟩ := F
    refine x_getr hG hM ck_Mo 27 (Nat.le_of_ble_eq_true rfl) rfl rfl w_924 rfl d_Mo_partAll_30 c12 c13 ?_
    refine x_iload_n hM d_Mo_partAll_33 rfl 2 rfl ?_
    refine x_aload_n hM d_Mo_partAll_34 rfl 0 rfl ?_
    obtain ⟨c10, F⟩ := F
    obtain ⟨c11, F⟩ := F
    refine x_getr hG hM ck_Mo 15 (Nat.le_of_ble_eq_true rfl) rfl rfl w_912 rfl d_Mo_partAll_35 c10 c11 ?_
    refine x_iload_n hM d_Mo_partAll_38 rfl 2 rfl ?_
    obtain ⟨c8, F⟩ := F
    obtain ⟨c9, F⟩ := F
    refine x_zaload hG hM d_Mo_partAll_39 c8 c9 ?_
    have JJ : ∀ (z3 : Int32) (ez3 : z3 = (if (kI h (rf h v0 15) (Int32.toNatClampNeg v2)) = 0 then 0 else 1)), X G M Q 48 [(0, .ref v0), (1, .int v1), (2, .int v2)] [.int z3, .int v2, .ref (rf h v0 27)] h := by
      intro z3 ez3
      replace F := F _ ez3
      obtain ⟨c5, F⟩ := F
      obtain ⟨c6, F⟩ := F
      obtain ⟨h4, eh4⟩ : ∃ z : Hp, z = wI h (rf h v0 27) (Int32.toNatClampNeg v2) z3 := ⟨_, rfl⟩
      replace F := F h4 eh4
      refine x_iastore hG hM d_Mo_partAll_48 c5 c6 ?_
      rw [← eh4]
      clear eh4
      refine x_iinc (v := (v2 + 1)) (lv2 := [(2, .int (v2 + 1)), (0, .ref v0), (1, .int v1)]) hM d_Mo_partAll_49 (j := 2) rfl rfl (Nat.le_of_ble_eq_true rfl) rfl ?_
      refine x_goto (tgt := 21) hM d_Mo_partAll_52 (by decide) ?_
      refine x_sub [1, 2, 0] rfl ?_
      exact F
    refine x_if_eq (tgt := 47) hM d_Mo_partAll_40 (by decide) (fun q7 => ?_) (fun q7 => ?_)
    · refine x_iconst (v := 0) hM d_Mo_partAll_47 (by decide) ?_
      exact JJ _ (Eq.symm (if_pos q7))
    · refine x_iconst (v := 1) hM d_Mo_partAll_43 (by decide) ?_
      refine x_goto (tgt := 48) hM d_Mo_partAll_44 (by decide) ?_
      exact JJ _ (Eq.symm (if_neg q7))
set_option maxRecDepth 100000 in
set_option maxHeartbeats 4000000 in
theorem S_Mo_partAll_62 {G : Gc} {M : Mc} {Q : State → Prop} {K : Option Value → Hp → Prop} (hG : gok G) (hM : mok G M r_Mo_partAll Q K) (v0 : Nat) (v1 : Int32) (v2 : Int32) (h : Hp) (F : (v2 = 0 → K none h) ∧ (¬ v2 = 0 → X G M Q 68 [(0, .ref v0), (1, .int v1), (3, .int 0)] [] h)) : X G M Q 62 [(0, .ref v0), (1, .int v1), (2, .int v2)] [] h := by
  refine x_iload_n hM d_Mo_partAll_62 rfl 2 rfl ?_
  refine x_if_eq (tgt := 300) hM d_Mo_partAll_63 (by decide) (fun q1 => ?_) (fun q1 => ?_)
  · replace F := F.1 q1
    exact x_return hM d_Mo_partAll_300 rfl F
  · replace F := F.2 q1
    refine x_iconst (v := 0) hM d_Mo_partAll_66 (by decide) ?_
    refine x_istore_n (lv2 := [(3, .int 0), (0, .ref v0), (1, .int v1), (2, .int v2)]) hM d_Mo_partAll_67 rfl (Nat.le_of_ble_eq_true rfl) rfl ?_
    refine x_sub [1, 2, 0] rfl ?_
    exact F
set_option maxRecDepth 100000 in
set_option maxHeartbeats 4000000 in
theorem S_Mo_partAll_68 {G : Gc} {M : Mc} {Q : State → Prop} {K : Option Value → Hp → Prop} (hG : gok G) (hM : mok G M r_Mo_partAll Q K) (v0 : Nat) (v1 : Int32) (v3 : Int32) (h : Hp) (F : (8192 ≤ v3 → (kT h v0 = 12 ∧ (∀ h1 : Hp, h1 = wI h v0 32 0 → X G M Q 95 [(0, .ref v0), (1, .int v1), (3, .int 0)] [] h1))) ∧ (¬ 8192 ≤ v3 → (kT h v0 = 12 ∧ kR h v0 30 = some (rf h v0 30) ∧ (kT h (rf h v0 30) = 50 ∧ vp_in v3 (kN h (rf h v0 30)) ∧ (∀ h3 : Hp, h3 = wI h (rf h v0 30) (Int32.toNatClampNeg v3) (-1) → X G M Q 68 [(0, .ref v0), (1, .int v1), (3, .int (v3 + 1))] [] h3))))) : X G M Q 68 [(0, .ref v0), (1, .int v1), (3, .int v3)] [] h := by
  refine x_iload_n hM d_Mo_partAll_68 rfl 2 rfl ?_
  refine x_sipush (v := 8192) hM d_Mo_partAll_69 (by decide) ?_
  refine x_icmp_ge (tgt := 88) hM d_Mo_partAll_72 (by decide) (fun q8 => ?_) (fun q8 => ?_)
  · replace F := F.1 q8
    refine x_aload_n hM d_Mo_partAll_88 rfl 0 rfl ?_
    refine x_iconst (v := 0) hM d_Mo_partAll_89 (by decide) ?_
    obtain ⟨c2, F⟩ := F
    obtain ⟨h1, eh1⟩ : ∃ z : Hp, z = wI h v0 32 0 := ⟨_, rfl⟩
    replace F := F h1 eh1
    refine x_puti hG hM ck_Mo 32 (Nat.le_of_ble_eq_true rfl) rfl rfl w_929 rfl d_Mo_partAll_90 (Or.inl rfl) c2 ?_
    rw [← eh1]
    clear eh1
    refine x_iconst (v := 0) hM d_Mo_partAll_93 (by decide) ?_
    refine x_istore_n (lv2 := [(3, .int 0), (0, .ref v0), (1, .int v1)]) hM d_Mo_partAll_94 rfl (Nat.le_of_ble_eq_true rfl) rfl ?_
    refine x_sub [1, 2, 0] rfl ?_
    exact F
  · replace F := F.2 q8
    refine x_aload_n hM d_Mo_partAll_75 rfl 0 rfl ?_
    obtain ⟨c6, F⟩ := F
    obtain ⟨c7, F⟩ := F
    refine x_getr hG hM ck_Mo 30 (Nat.le_of_ble_eq_true rfl) rfl rfl w_927 rfl d_Mo_partAll_76 c6 c7 ?_
    refine x_iload_n hM d_Mo_partAll_79 rfl 2 rfl ?_
    refine x_iconst (v := (-1)) hM d_Mo_partAll_80 (by decide) ?_
    obtain ⟨c4, F⟩ := F
    obtain ⟨c5, F⟩ := F
    obtain ⟨h3, eh3⟩ : ∃ z : Hp, z = wI h (rf h v0 30) (Int32.toNatClampNeg v3) (-1) := ⟨_, rfl⟩
    replace F := F h3 eh3
    refine x_iastore hG hM d_Mo_partAll_81 c4 c5 ?_
    rw [← eh3]
    clear eh3
    refine x_iinc (v := (v3 + 1)) (lv2 := [(3, .int (v3 + 1)), (0, .ref v0), (1, .int v1)]) hM d_Mo_partAll_82 (j := 2) rfl rfl (Nat.le_of_ble_eq_true rfl) rfl ?_
    refine x_goto (tgt := 68) hM d_Mo_partAll_85 (by decide) ?_
    refine x_sub [1, 2, 0] rfl ?_
    exact F
set_option maxRecDepth 100000 in
set_option maxHeartbeats 4000000 in
theorem S_Mo_partAll_95 {G : Gc} {M : Mc} {Q : State → Prop} {K : Option Value → Hp → Prop} (hG : gok G) (hM : mok G M r_Mo_partAll Q K) (v0 : Nat) (v1 : Int32) (v3 : Int32) (h : Hp) (F : kT h v0 = 12 ∧ (((kI h v0 13) ≤ v3 → X G M Q 252 [(0, .ref v0), (1, .int v1), (3, .int 0)] [] h) ∧ (¬ (kI h v0 13) ≤ v3 → (kT h v0 = 12 ∧ kR h v0 29 = some (rf h v0 29) ∧ (kT h v0 = 12 ∧ sem G r_Mo_signOf [.ref v0, .int v3] h (fun u2 h1 => ∃ x3 : Int64, u2 = some (.long x3) ∧ (kT h1 (rf h v0 29) = 52 ∧ vp_in v3 (kN h1 (rf h v0 29)) ∧ (∀ h4 : Hp, h4 = wL h1 (rf h v0 29) (Int32.toNatClampNeg v3) x3 → (kT h4 v0 = 12 ∧ kR h4 v0 29 = some (rf h4 v0 29) ∧ (kT h4 (rf h4 v0 29) = 52 ∧ vp_in v3 (kN h4 (rf h4 v0 29)) ∧ (kT h4 v0 = 12 ∧ kR h4 v0 30 = some (rf h4 v0 30) ∧ (kT h4 (rf h4 v0 30) = 50 ∧ vp_in (Int64.toInt32 ((kL h4 (rf h4 v0 29) (Int32.toNatClampNeg v3)) &&& 8191)) (kN h4 (rf h4 v0 30)) ∧ X G M Q 136 [(0, .ref v0), (1, .int v1), (3, .int v3), (4, .int (Int64.toInt32 ((kL h4 (rf h4 v0 29) (Int32.toNatClampNeg v3)) &&& 8191))), (5, .int (kI h4 (rf h4 v0 30) (Int32.toNatClampNeg (Int64.toInt32 ((kL h4 (rf h4 v0 29) (Int32.toNatClampNeg v3)) &&& 8191)))))] [] h4)))))))))))) : X G M Q 95 [(0, .ref v0), (1, .int v1), (3, .int v3)] [] h := by
  refine x_iload_n hM d_Mo_partAll_95 rfl 2 rfl ?_
  refine x_aload_n hM d_Mo_partAll_96 rfl 0 rfl ?_
  obtain ⟨c19, F⟩ := F
  refine x_geti hG hM ck_Mo 13 (Nat.le_of_ble_eq_true rfl) rfl rfl w_910 rfl d_Mo_partAll_97 c19 ?_
  refine x_icmp_ge (tgt := 250) hM d_Mo_partAll_100 (by decide) (fun q18 => ?_) (fun q18 => ?_)
  · replace F := F.1 q18
    refine x_iconst (v := 0) hM d_Mo_partAll_250 (by decide) ?_
    refine x_istore_n (lv2 := [(3, .int 0), (0, .ref v0), (1, .int v1)]) hM d_Mo_partAll_251 rfl (Nat.le_of_ble_eq_true rfl) rfl ?_
    refine x_sub [1, 2, 0] rfl ?_
    exact F
  · replace F := F.2 q18
    refine x_aload_n hM d_Mo_partAll_103 rfl 0 rfl ?_
    obtain ⟨c16, F⟩ := F
    obtain ⟨c17, F⟩ := F
    refine x_getr hG hM ck_Mo 29 (Nat.le_of_ble_eq_true rfl) rfl rfl w_926 rfl d_Mo_partAll_104 c16 c17 ?_
    refine x_iload_n hM d_Mo_partAll_107 rfl 2 rfl ?_
    refine x_aload_n hM d_Mo_partAll_108 rfl 0 rfl ?_
    refine x_iload_n hM d_Mo_partAll_109 rfl 2 rfl ?_
    obtain ⟨c15, F⟩ := F
    refine x_callV hG hM (r' := r_Mo_signOf) (ci := 11) [.int v3] rfl rfl (Nat.le_of_ble_eq_true rfl) yk_Mo_signOf ⟨Nat.le_of_ble_eq_true rfl, Nat.le_of_ble_eq_true rfl⟩ w_1144 w_1146 ws_Mo_signOf rfl rfl (Nat.le_of_ble_eq_true rfl) d_Mo_partAll_110 c15 (sem_mono F ?_)
    intro u2 h1 F
    obtain ⟨x3, rfl, F⟩ := F
    obtain ⟨c13, F⟩ := F
    obtain ⟨c14, F⟩ := F
    obtain ⟨h4, eh4⟩ : ∃ z : Hp, z = wL h1 (rf h v0 29) (Int32.toNatClampNeg v3) x3 := ⟨_, rfl⟩
    replace F := F h4 eh4
    refine x_lastore hG hM d_Mo_partAll_113 c13 c14 ?_
    rw [← eh4]
    clear eh4
    refine x_aload_n hM d_Mo_partAll_114 rfl 0 rfl ?_
    obtain ⟨c11, F⟩ := F
    obtain ⟨c12, F⟩ := F
    refine x_getr hG hM ck_Mo 29 (Nat.le_of_ble_eq_true rfl) rfl rfl w_926 rfl d_Mo_partAll_115 c11 c12 ?_
    refine x_iload_n hM d_Mo_partAll_118 rfl 2 rfl ?_
    obtain ⟨c9, F⟩ := F
    obtain ⟨c10, F⟩ := F
    refine x_laload hG hM d_Mo_partAll_119 c9 c10 ?_
    refine x_ldc2 hG hM rfl w_1152 d_Mo_partAll_120 ?_
    refine x_land hM d_Mo_partAll_123 ?_
    refine x_l2i hM d_Mo_partAll_124 ?_
    refine x_istore (lv2 := [(4, .int (Int64.toInt32 ((kL h4 (rf h4 v0 29) (Int32.toNatClampNeg v3)) &&& 8191))), (0, .ref v0), (1, .int v1), (3, .int v3)]) hM d_Mo_partAll_125 (Nat.le_of_ble_eq_true rfl) rfl ?_
    refine x_aload_n hM d_Mo_partAll_127 rfl 1 rfl ?_
    obtain ⟨c7, F⟩ := F
    obtain ⟨c8, F⟩ := F
    refine x_getr hG hM ck_Mo 30 (Nat.le_of_ble_eq_true rfl) rfl rfl w_927 rfl d_Mo_partAll_128 c7 c8 ?_
    refine x_iload hM d_Mo_partAll_131 0 rfl ?_
    obtain ⟨c5, F⟩ := F
    obtain ⟨c6, F⟩ := F
    refine x_iaload hG hM d_Mo_partAll_133 c5 c6 ?_
    refine x_istore (lv2 := [(5, .int (kI h4 (rf h4 v0 30) (Int32.toNatClampNeg (Int64.toInt32 ((kL h4 (rf h4 v0 29) (Int32.toNatClampNeg v3)) &&& 8191))))), (4, .int (Int64.toInt32 ((kL h4 (rf h4 v0 29) (Int32.toNatClampNeg v3)) &&& 8191))), (0, .ref v0), (1, .int v1), (3, .int v3)]) hM d_Mo_partAll_134 (Nat.le_of_ble_eq_true rfl) rfl ?_
    refine x_sub [2, 3, 4, 1, 0] rfl ?_
    exact F
set_option maxRecDepth 100000 in
set_option maxHeartbeats 4000000 in
theorem S_Mo_partAll_136 {G : Gc} {M : Mc} {Q : State → Prop} {K : Option Value → Hp → Prop} (hG : gok G) (hM : mok G M r_Mo_partAll Q K) (v0 : Nat) (v1 : Int32) (v3 : Int32) (v4 : Int32) (v5 : Int32) (h : Hp) (F : (v5 = (-1) → X G M Q 181 [(0, .ref v0), (1, .int v1), (3, .int v3), (4, .int v4), (5, .int v5)] [] h) ∧ (¬ v5 = (-1) → (kT h v0 = 12 ∧ kR h v0 29 = some (rf h v0 29) ∧ (kT h (rf h v0 29) = 52 ∧ vp_in v5 (kN h (rf h v0 29)) ∧ (kT h v0 = 12 ∧ kR h v0 29 = some (rf h v0 29) ∧ (kT h (rf h v0 29) = 52 ∧ vp_in v3 (kN h (rf h v0 29)) ∧ (((lg_cmp (kL h (rf h v0 29) (Int32.toNatClampNeg v5)) (kL h (rf h v0 29) (Int32.toNatClampNeg v3))) = 0 → (kT h v0 = 12 ∧ sem G r_Mo_areAlike [.ref v0, .int v3, .int v5] h (fun u6 h5 => ∃ x7 : Int32, u6 = some (.int x7) ∧ ((x7 = 0 → (kT h5 v0 = 12 ∧ kR h5 v0 31 = some (rf h5 v0 31) ∧ (kT h5 (rf h5 v0 31) = 50 ∧ vp_in v5 (kN h5 (rf h5 v0 31)) ∧ X G M Q 136 [(0, .ref v0), (1, .int v1), (3, .int v3), (4, .int v4), (5, .int (kI h5 (rf h5 v0 31) (Int32.toNatClampNeg v5)))] [] h5))) ∧ (¬ x7 = 0 → X G M Q 181 [(0, .ref v0), (1, .int v1), (3, .int v3), (4, .int v4), (5, .int v5)] [] h5))))) ∧ (¬ (lg_cmp (kL h (rf h v0 29) (Int32.toNatClampNeg v5)) (kL h (rf h v0 29) (Int32.toNatClampNeg v3))) = 0 → (kT h v0 = 12 ∧ kR h v0 31 = some (rf h v0 31) ∧ (kT h (rf h v0 31) = 50 ∧ vp_in v5 (kN h (rf h v0 31)) ∧ X G M Q 136 [(0, .ref v0), (1, .int v1), (3, .int v3), (4, .int v4), (5, .int (kI h (rf h v0 31) (Int32.toNatClampNeg v5)))] [] h)))))))))) : X G M Q 136 [(0, .ref v0), (1, .int v1), (3, .int v3), (4, .int v4), (5, .int v5)] [] h := by
  refine x_iload hM d_Mo_partAll_136 4 rfl ?_
  refine x_iconst (v := (-1)) hM d_Mo_partAll_138 (by decide) ?_
  refine x_icmp_eq (tgt := 181) hM d_Mo_partAll_139 (by decide) (fun q23 => ?_) (fun q23 => ?_)
  · replace F := F.1 q23
    exact F
  · replace F := F.2 q23
    refine x_aload_n hM d_Mo_partAll_142 rfl 0 rfl ?_
    obtain ⟨c21, F⟩ := F
    obtain ⟨c22, F⟩ := F
    refine x_getr hG hM ck_Mo 29 (Nat.le_of_ble_eq_true rfl) rfl rfl w_926 rfl d_Mo_partAll_143 c21 c22 ?_
    refine x_iload hM d_Mo_partAll_146 4 rfl ?_
    obtain ⟨c19, F⟩ := F
    obtain ⟨c20, F⟩ := F
    refine x_laload hG hM d_Mo_partAll_148 c19 c20 ?_
    refine x_aload_n hM d_Mo_partAll_149 rfl 0 rfl ?_
    obtain ⟨c17, F⟩ := F
    obtain ⟨c18, F⟩ := F
    refine x_getr hG hM ck_Mo 29 (Nat.le_of_ble_eq_true rfl) rfl rfl w_926 rfl d_Mo_partAll_150 c17 c18 ?_
    refine x_iload_n hM d_Mo_partAll_153 rfl 2 rfl ?_
    obtain ⟨c15, F⟩ := F
    obtain ⟨c16, F⟩ := F
    refine x_laload hG hM d_Mo_partAll_154 c15 c16 ?_
    refine x_lcmp hM d_Mo_partAll_155 ?_
    refine x_if_ne (tgt := 169) hM d_Mo_partAll_156 (by decide) (fun q14 => ?_) (fun q14 => ?_)
    · replace F := F.2 q14
      refine x_aload_n hM d_Mo_partAll_169 rfl 0 rfl ?_
      obtain ⟨c3, F⟩ := F
      obtain ⟨c4, F⟩ := F
      refine x_getr hG hM ck_Mo 31 (Nat.le_of_ble_eq_true rfl) rfl rfl w_928 rfl d_Mo_partAll_170 c3 c4 ?_
      refine x_iload hM d_Mo_partAll_173 4 rfl ?_
      obtain ⟨c1, F⟩ := F
      obtain ⟨c2, F⟩ := F
      refine x_iaload hG hM d_Mo_partAll_175 c1 c2 ?_
      refine x_istore (lv2 := [(5, .int (kI h (rf h v0 31) (Int32.toNatClampNeg v5))), (0, .ref v0), (1, .int v1), (3, .int v3), (4, .int v4)]) hM d_Mo_partAll_176 (Nat.le_of_ble_eq_true rfl) rfl ?_
      refine x_goto (tgt := 136) hM d_Mo_partAll_178 (by decide) ?_
      refine x_sub [1, 2, 3, 4, 0] rfl ?_
      exact F
    · replace F := F.1 q14
      refine x_aload_n hM d_Mo_partAll_159 rfl 0 rfl ?_
      refine x_iload_n hM d_Mo_partAll_160 rfl 2 rfl ?_
      refine x_iload hM d_Mo_partAll_161 4 rfl ?_
      obtain ⟨c13, F⟩ := F
      refine x_callV hG hM (r' := r_Mo_areAlike) (ci := 11) [.int v3, .int v5] rfl rfl (Nat.le_of_ble_eq_true rfl) yk_Mo_areAlike ⟨Nat.le_of_ble_eq_true rfl, Nat.le_of_ble_eq_true rfl⟩ w_1153 w_1155 ws_Mo_areAlike rfl rfl (Nat.le_of_ble_eq_true rfl) d_Mo_partAll_163 c13 (sem_mono F ?_)
      intro u6 h5 F
      obtain ⟨x7, rfl, F⟩ := F
      refine x_if_ne (tgt := 181) hM d_Mo_partAll_166 (by decide) (fun q12 => ?_) (fun q12 => ?_)
      · replace F := F.2 q12
        exact F
      · replace F := F.1 q12
        refine x_aload_n hM d_Mo_partAll_169 rfl 0 rfl ?_
        obtain ⟨c10, F⟩ := F
        obtain ⟨c11, F⟩ := F
        refine x_getr hG hM ck_Mo 31 (Nat.le_of_ble_eq_true rfl) rfl rfl w_928 rfl d_Mo_partAll_170 c10 c11 ?_
        refine x_iload hM d_Mo_partAll_173 4 rfl ?_
        obtain ⟨c8, F⟩ := F
        obtain ⟨c9, F⟩ := F
        refine x_iaload hG hM d_Mo_partAll_175 c8 c9 ?_
        refine x_istore (lv2 := [(5, .int (kI h5 (rf h5 v0 31) (Int32.toNatClampNeg v5))), (0, .ref v0), (1, .int v1), (3, .int v3), (4, .int v4)]) hM d_Mo_partAll_176 (Nat.le_of_ble_eq_true rfl) rfl ?_
        refine x_goto (tgt := 136) hM d_Mo_partAll_178 (by decide) ?_
        refine x_sub [1, 2, 3, 4, 0] rfl ?_
        exact F
set_option maxRecDepth 100000 in
set_option maxHeartbeats 4000000 in
theorem S_Mo_partAll_252 {G : Gc} {M : Mc} {Q : State → Prop} {K : Option Value → Hp → Prop} (hG : gok G) (hM : mok G M r_Mo_partAll Q K) (v0 : Nat) (v1 : Int32) (v3 : Int32) (h : Hp) (F : kT h v0 = 12 ∧ (((kI h v0 13) ≤ v3 → (kT h v0 = 12 ∧ (∀ z1 : Int32, z1 = (if (kI h v0 32) = v1 then 0 else 1) → (kT h v0 = 12 ∧ X G M Q 62 [(0, .ref v0), (1, .int (kI h v0 32)), (2, .int z1)] [] h)))) ∧ (¬ (kI h v0 13) ≤ v3 → (kT h v0 = 12 ∧ kR h v0 27 = some (rf h v0 27) ∧ (kT h v0 = 12 ∧ kR h v0 28 = some (rf h v0 28) ∧ (kT h (rf h v0 28) = 50 ∧ vp_in v3 (kN h (rf h v0 28)) ∧ (kT h (rf h v0 27) = 50 ∧ vp_in v3 (kN h (rf h v0 27)) ∧ (∀ h5 : Hp, h5 = wI h (rf h v0 27) (Int32.toNatClampNeg v3) (kI h (rf h v0 28) (Int32.toNatClampNeg v3)) → X G M Q 252 [(0, .ref v0), (1, .int v1), (3, .int (v3 + 1))] [] h5)))))))) : X G M Q 252 [(0, .ref v0), (1, .int v1), (3, .int v3)] [] h := by
  refine x_iload_n hM d_Mo_partAll_252 rfl 2 rfl ?_
  refine x_aload_n hM d_Mo_partAll_253 rfl 0 rfl ?_
  obtain ⟨c15, F⟩ := F
  refine x_geti hG hM ck_Mo 13 (Nat.le_of_ble_eq_true rfl) rfl rfl w_910 rfl d_Mo_partAll_254 c15 ?_
  refine x_icmp_ge (tgt := 278) hM d_Mo_partAll_257 (by decide) (fun q14 => ?_) (fun q14 => ?_)
  · replace F := F.1 q14
    refine x_aload_n hM d_Mo_partAll_278 rfl 0 rfl ?_
    obtain ⟨c4, F⟩ := F
    refine x_geti hG hM ck_Mo 32 (Nat.le_of_ble_eq_true rfl) rfl rfl w_929 rfl d_Mo_partAll_279 c4 ?_
    refine x_iload_n hM d_Mo_partAll_282 rfl 1 rfl ?_
    have JJ : ∀ (z1 : Int32) (ez1 : z1 = (if (kI h v0 32) = v1 then 0 else 1)), X G M Q 291 [(0, .ref v0)] [.int z1] h := by
      intro z1 ez1
      replace F := F _ ez1
      refine x_istore_n (lv2 := [(2, .int z1), (0, .ref v0)]) hM d_Mo_partAll_291 rfl (Nat.le_of_ble_eq_true rfl) rfl ?_
      refine x_aload_n hM d_Mo_partAll_292 rfl 1 rfl ?_
      obtain ⟨c2, F⟩ := F
      refine x_geti hG hM ck_Mo 32 (Nat.le_of_ble_eq_true rfl) rfl rfl w_929 rfl d_Mo_partAll_293 c2 ?_
      refine x_istore_n (lv2 := [(1, .int (kI h v0 32)), (2, .int z1), (0, .ref v0)]) hM d_Mo_partAll_296 rfl (Nat.le_of_ble_eq_true rfl) rfl ?_
      refine x_goto (tgt := 62) hM d_Mo_partAll_297 (by decide) ?_
      refine x_sub [2, 0, 1] rfl ?_
      exact F
    refine x_icmp_eq (tgt := 290) hM d_Mo_partAll_283 (by decide) (fun q3 => ?_) (fun q3 => ?_)
    · refine x_iconst (v := 0) hM d_Mo_partAll_290 (by decide) ?_
      refine x_sub [0] rfl ?_
      exact JJ _ (Eq.symm (if_pos q3))
    · refine x_iconst (v := 1) hM d_Mo_partAll_286 (by decide) ?_
      refine x_goto (tgt := 291) hM d_Mo_partAll_287 (by decide) ?_
      refine x_sub [0] rfl ?_
      exact JJ _ (Eq.symm (if_neg q3))
  · replace F := F.2 q14
    refine x_aload_n hM d_Mo_partAll_260 rfl 0 rfl ?_
    obtain ⟨c12, F⟩ := F
    obtain ⟨c13, F⟩ := F
    refine x_getr hG hM ck_Mo 27 (Nat.le_of_ble_eq_true rfl) rfl rfl w_924 rfl d_Mo_partAll_261 c12 c13 ?_
    refine x_iload_n hM d_Mo_partAll_264 rfl 2 rfl ?_
    refine x_aload_n hM d_Mo_partAll_265 rfl 0 rfl ?_
    obtain ⟨c10, F⟩ := F
    obtain ⟨c11, F⟩ := F
    refine x_getr hG hM ck_Mo 28 (Nat.le_of_ble_eq_true rfl) rfl rfl w_925 rfl d_Mo_partAll_266 c10 c11 ?_
    refine x_iload_n hM d_Mo_partAll_269 rfl 2 rfl ?_
    obtain ⟨c8, F⟩ := F
    obtain ⟨c9, F⟩ := F
    refine x_iaload hG hM d_Mo_partAll_270 c8 c9 ?_
    obtain ⟨c6, F⟩ := F
    obtain ⟨c7, F⟩ := F
    obtain ⟨h5, eh5⟩ : ∃ z : Hp, z = wI h (rf h v0 27) (Int32.toNatClampNeg v3) (kI h (rf h v0 28) (Int32.toNatClampNeg v3)) := ⟨_, rfl⟩
    replace F := F h5 eh5
    refine x_iastore hG hM d_Mo_partAll_271 c6 c7 ?_
    rw [← eh5]
    clear eh5
    refine x_iinc (v := (v3 + 1)) (lv2 := [(3, .int (v3 + 1)), (0, .ref v0), (1, .int v1)]) hM d_Mo_partAll_272 (j := 2) rfl rfl (Nat.le_of_ble_eq_true rfl) rfl ?_
    refine x_goto (tgt := 252) hM d_Mo_partAll_275 (by decide) ?_
    refine x_sub [1, 2, 0] rfl ?_
    exact F
set_option maxRecDepth 100000 in
set_option maxHeartbeats 4000000 in
theorem S_Mo_partAll_181 {G : Gc} {M : Mc} {Q : State → Prop} {K : Option Value → Hp → Prop} (hG : gok G) (hM : mok G M r_Mo_partAll Q K) (v0 : Nat) (v1 : Int32) (v3 : Int32) (v4 : Int32) (v5 : Int32) (h : Hp) (F : (v5 = (-1) → (kT h v0 = 12 ∧ kR h v0 28 = some (rf h v0 28) ∧ (kT h v0 = 12 ∧ (kT h (rf h v0 28) = 50 ∧ vp_in v3 (kN h (rf h v0 28)) ∧ (∀ h10 : Hp, h10 = wI h (rf h v0 28) (Int32.toNatClampNeg v3) (kI h v0 32) → (kT h10 v0 = 12 ∧ (kT h10 v0 = 12 ∧ (∀ h11 : Hp, h11 = wI h10 v0 32 ((kI h10 v0 32) + 1) → (kT h11 v0 = 12 ∧ kR h11 v0 31 = some (rf h11 v0 31) ∧ (kT h11 v0 = 12 ∧ kR h11 v0 30 = some (rf h11 v0 30) ∧ (kT h11 (rf h11 v0 30) = 50 ∧ vp_in v4 (kN h11 (rf h11 v0 30)) ∧ (kT h11 (rf h11 v0 31) = 50 ∧ vp_in v3 (kN h11 (rf h11 v0 31)) ∧ (∀ h12 : Hp, h12 = wI h11 (rf h11 v0 31) (Int32.toNatClampNeg v3) (kI h11 (rf h11 v0 30) (Int32.toNatClampNeg v4)) → (kT h12 v0 = 12 ∧ kR h12 v0 30 = some (rf h12 v0 30) ∧ (kT h12 (rf h12 v0 30) = 50 ∧ vp_in v4 (kN h12 (rf h12 v0 30)) ∧ (∀ h13 : Hp, h13 = wI h12 (rf h12 v0 30) (Int32.toNatClampNeg v4) v3 → X G M Q 95 [(0, .ref v0), (1, .int v1), (3, .int (v3 + 1))] [] h13)))))))))))))))) ∧ (¬ v5 = (-1) → (kT h v0 = 12 ∧ kR h v0 28 = some (rf h v0 28) ∧ (kT h v0 = 12 ∧ kR h v0 28 = some (rf h v0 28) ∧ (kT h (rf h v0 28) = 50 ∧ vp_in v5 (kN h (rf h v0 28)) ∧ (kT h (rf h v0 28) = 50 ∧ vp_in v3 (kN h (rf h v0 28)) ∧ (∀ h1 : Hp, h1 = wI h (rf h v0 28) (Int32.toNatClampNeg v3) (kI h (rf h v0 28) (Int32.toNatClampNeg v5)) → X G M Q 95 [(0, .ref v0), (1, .int v1), (3, .int (v3 + 1))] [] h1))))))) : X G M Q 181 [(0, .ref v0), (1, .int v1), (3, .int v3), (4, .int v4), (5, .int v5)] [] h := by
  refine x_iload hM d_Mo_partAll_181 4 rfl ?_
  refine x_iconst (v := (-1)) hM d_Mo_partAll_183 (by decide) ?_
  refine x_icmp_ne (tgt := 231) hM d_Mo_partAll_184 (by decide) (fun q33 => ?_) (fun q33 => ?_)
  · replace F := F.2 q33
    refine x_aload_n hM d_Mo_partAll_231 rfl 0 rfl ?_
    obtain ⟨c8, F⟩ := F
    obtain ⟨c9, F⟩ := F
    refine x_getr hG hM ck_Mo 28 (Nat.le_of_ble_eq_true rfl) rfl rfl w_925 rfl d_Mo_partAll_232 c8 c9 ?_
    refine x_iload_n hM d_Mo_partAll_235 rfl 2 rfl ?_
    refine x_aload_n hM d_Mo_partAll_236 rfl 0 rfl ?_
    obtain ⟨c6, F⟩ := F
    obtain ⟨c7, F⟩ := F
    refine x_getr hG hM ck_Mo 28 (Nat.le_of_ble_eq_true rfl) rfl rfl w_925 rfl d_Mo_partAll_237 c6 c7 ?_
    refine x_iload hM d_Mo_partAll_240 4 rfl ?_
    obtain ⟨c4, F⟩ := F
    obtain ⟨c5, F⟩ := F
    refine x_iaload hG hM d_Mo_partAll_242 c4 c5 ?_
    obtain ⟨c2, F⟩ := F
    obtain ⟨c3, F⟩ := F
    obtain ⟨h1, eh1⟩ : ∃ z : Hp, z = wI h (rf h v0 28) (Int32.toNatClampNeg v3) (kI h (rf h v0 28) (Int32.toNatClampNeg v5)) := ⟨_, rfl⟩
    replace F := F h1 eh1
    refine x_iastore hG hM d_Mo_partAll_243 c2 c3 ?_
    rw [← eh1]
    clear eh1
    refine x_iinc (v := (v3 + 1)) (lv2 := [(3, .int (v3 + 1)), (0, .ref v0), (1, .int v1), (4, .int v4), (5, .int v5)]) hM d_Mo_partAll_244 (j := 2) rfl rfl (Nat.le_of_ble_eq_true rfl) rfl ?_
    refine x_goto (tgt := 95) hM d_Mo_partAll_247 (by decide) ?_
    refine x_sub [1, 2, 0] rfl ?_
    exact F
  · replace F := F.1 q33
    refine x_aload_n hM d_Mo_partAll_187 rfl 0 rfl ?_
    obtain ⟨c31, F⟩ := F
    obtain ⟨c32, F⟩ := F
    refine x_getr hG hM ck_Mo 28 (Nat.le_of_ble_eq_true rfl) rfl rfl w_925 rfl d_Mo_partAll_188 c31 c32 ?_
    refine x_iload_n hM d_Mo_partAll_191 rfl 2 rfl ?_
    refine x_aload_n hM d_Mo_partAll_192 rfl 0 rfl ?_
    obtain ⟨c30, F⟩ := F
    refine x_geti hG hM ck_Mo 32 (Nat.le_of_ble_eq_true rfl) rfl rfl w_929 rfl d_Mo_partAll_193 c30 ?_
    obtain ⟨c28, F⟩ := F
    obtain ⟨c29, F⟩ := F
    obtain ⟨h10, eh10⟩ : ∃ z : Hp, z = wI h (rf h v0 28) (Int32.toNatClampNeg v3) (kI h v0 32) := ⟨_, rfl⟩
    replace F := F h10 eh10
    refine x_iastore hG hM d_Mo_partAll_196 c28 c29 ?_
    rw [← eh10]
    clear eh10
    refine x_aload_n hM d_Mo_partAll_197 rfl 0 rfl ?_
    refine x_dup hM d_Mo_partAll_198 rfl ?_
    obtain ⟨c27, F⟩ := F
    refine x_geti hG hM ck_Mo 32 (Nat.le_of_ble_eq_true rfl) rfl rfl w_929 rfl d_Mo_partAll_199 c27 ?_
    refine x_iconst (v := 1) hM d_Mo_partAll_202 (by decide) ?_
    refine x_iadd hM d_Mo_partAll_203 ?_
    obtain ⟨c26, F⟩ := F
    obtain ⟨h11, eh11⟩ : ∃ z : Hp, z = wI h10 v0 32 ((kI h10 v0 32) + 1) := ⟨_, rfl⟩
    replace F := F h11 eh11
    refine x_puti hG hM ck_Mo 32 (Nat.le_of_ble_eq_true rfl) rfl rfl w_929 rfl d_Mo_partAll_204 (Or.inl rfl) c26 ?_
    rw [← eh11]
    clear eh11
    refine x_aload_n hM d_Mo_partAll_207 rfl 0 rfl ?_
    obtain ⟨c24, F⟩ := F
    obtain ⟨c25, F⟩ := F
    refine x_getr hG hM ck_Mo 31 (Nat.le_of_ble_eq_true rfl) rfl rfl w_928 rfl d_Mo_partAll_208 c24 c25 ?_
    refine x_iload_n hM d_Mo_partAll_211 rfl 2 rfl ?_
    refine x_aload_n hM d_Mo_partAll_212 rfl 0 rfl ?_
    obtain ⟨c22, F⟩ := F
    obtain ⟨c23, F⟩ := F
    refine x_getr hG hM ck_Mo 30 (Nat.le_of_ble_eq_true rfl) rfl rfl w_927 rfl d_Mo_partAll_213 c22 c23 ?_
    refine x_iload hM d_Mo_partAll_216 3 rfl ?_
    obtain ⟨c20, F⟩ := F
    obtain ⟨c21, F⟩ := F
    refine x_iaload hG hM d_Mo_partAll_218 c20 c21 ?_
    obtain ⟨c18, F⟩ := F
    obtain ⟨c19, F⟩ := F
    obtain ⟨h12, eh12⟩ : ∃ z : Hp, z = wI h11 (rf h11 v0 31) (Int32.toNatClampNeg v3) (kI h11 (rf h11 v0 30) (Int32.toNatClampNeg v4)) := ⟨_, rfl⟩
    replace F := F h12 eh12
    refine x_iastore hG hM d_Mo_partAll_219 c18 c19 ?_
    rw [← eh12]
    clear eh12
    refine x_aload_n hM d_Mo_partAll_220 rfl 0 rfl ?_
    obtain ⟨c16, F⟩ := F
    obtain ⟨c17, F⟩ := F
    refine x_getr hG hM ck_Mo 30 (Nat.le_of_ble_eq_true rfl) rfl rfl w_927 rfl d_Mo_partAll_221 c16 c17 ?_
    refine x_iload hM d_Mo_partAll_224 3 rfl ?_
    refine x_iload_n hM d_Mo_partAll_226 rfl 2 rfl ?_
    obtain ⟨c14, F⟩ := F
    obtain ⟨c15, F⟩ := F
    obtain ⟨h13, eh13⟩ : ∃ z : Hp, z = wI h12 (rf h12 v0 30) (Int32.toNatClampNeg v4) v3 := ⟨_, rfl⟩
    replace F := F h13 eh13
    refine x_iastore hG hM d_Mo_partAll_227 c14 c15 ?_
    rw [← eh13]
    clear eh13
    refine x_goto (tgt := 244) hM d_Mo_partAll_228 (by decide) ?_
    refine x_iinc (v := (v3 + 1)) (lv2 := [(3, .int (v3 + 1)), (0, .ref v0), (1, .int v1), (4, .int v4), (5, .int v5)]) hM d_Mo_partAll_244 (j := 2) rfl rfl (Nat.le_of_ble_eq_true rfl) rfl ?_
    refine x_goto (tgt := 95) hM d_Mo_partAll_247 (by decide) ?_
    refine x_sub [1, 2, 0] rfl ?_
    exact F
