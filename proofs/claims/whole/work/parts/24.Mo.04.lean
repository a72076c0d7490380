theorem d_Mo_count_0 : decode b_Mo_count 0 = .ok (.aload_n 0, 1) := by decide +kernel
theorem d_Mo_count_1 : decode b_Mo_count 1 = .ok (.invokevirtual 191, 3) := by decide +kernel
theorem d_Mo_count_4 : decode b_Mo_count 4 = .ok (.iconst 0, 1) := by decide +kernel
theorem d_Mo_count_5 : decode b_Mo_count 5 = .ok (.istore_n 2, 1) := by decide +kernel
theorem d_Mo_count_6 : decode b_Mo_count 6 = .ok (.iload_n 1, 1) := by decide +kernel
theorem d_Mo_count_7 : decode b_Mo_count 7 = .ok (.tableswitch 86 0 10 #[57, 62, 67, 86, 86, 86, 86, 86, 86, 72, 81], 57) := by decide +kernel
theorem d_Mo_count_64 : decode b_Mo_count 64 = .ok (.aload_n 0, 1) := by decide +kernel
theorem d_Mo_count_65 : decode b_Mo_count 65 = .ok (.getfield 157, 3) := by decide +kernel
theorem d_Mo_count_68 : decode b_Mo_count 68 = .ok (.ireturn, 1) := by decide +kernel
theorem d_Mo_count_69 : decode b_Mo_count 69 = .ok (.aload_n 0, 1) := by decide +kernel
theorem d_Mo_count_70 : decode b_Mo_count 70 = .ok (.getfield 105, 3) := by decide +kernel
theorem d_Mo_count_73 : decode b_Mo_count 73 = .ok (.ireturn, 1) := by decide +kernel
theorem d_Mo_count_74 : decode b_Mo_count 74 = .ok (.aload_n 0, 1) := by decide +kernel
theorem d_Mo_count_75 : decode b_Mo_count 75 = .ok (.getfield 112, 3) := by decide +kernel
theorem d_Mo_count_78 : decode b_Mo_count 78 = .ok (.ireturn, 1) := by decide +kernel
theorem d_Mo_count_79 : decode b_Mo_count 79 = .ok (.aload_n 0, 1) := by decide +kernel
theorem d_Mo_count_80 : decode b_Mo_count 80 = .ok (.invokevirtual 206, 3) := by decide +kernel
theorem d_Mo_count_83 : decode b_Mo_count 83 = .ok (.aload_n 0, 1) := by decide +kernel
theorem d_Mo_count_84 : decode b_Mo_count 84 = .ok (.getfield 194, 3) := by decide +kernel
theorem d_Mo_count_87 : decode b_Mo_count 87 = .ok (.ireturn, 1) := by decide +kernel
theorem d_Mo_count_88 : decode b_Mo_count 88 = .ok (.aload_n 0, 1) := by decide +kernel
theorem d_Mo_count_89 : decode b_Mo_count 89 = .ok (.getfield 115, 3) := by decide +kernel
theorem d_Mo_count_92 : decode b_Mo_count 92 = .ok (.ireturn, 1) := by decide +kernel
theorem d_Mo_count_93 : decode b_Mo_count 93 = .ok (.iload_n 1, 1) := by decide +kernel
theorem d_Mo_count_94 : decode b_Mo_count 94 = .ok (.iconst 3, 1) := by decide +kernel
theorem d_Mo_count_95 : decode b_Mo_count 95 = .ok (.bipush 8, 2) := by decide +kernel
theorem d_Mo_count_97 : decode b_Mo_count 97 = .ok (.invokestatic 118, 3) := by decide +kernel
theorem d_Mo_count_100 : decode b_Mo_count 100 = .ok (.ifCond .ne 6, 3) := by decide +kernel
theorem d_Mo_count_103 : decode b_Mo_count 103 = .ok (.bipush (-2), 2) := by decide +kernel
theorem d_Mo_count_105 : decode b_Mo_count 105 = .ok (.ireturn, 1) := by decide +kernel
theorem d_Mo_count_106 : decode b_Mo_count 106 = .ok (.iconst 0, 1) := by decide +kernel
theorem d_Mo_count_107 : decode b_Mo_count 107 = .ok (.istore_n 3, 1) := by decide +kernel
theorem d_Mo_count_108 : decode b_Mo_count 108 = .ok (.iload_n 3, 1) := by decide +kernel
theorem d_Mo_count_109 : decode b_Mo_count 109 = .ok (.aload_n 0, 1) := by decide +kernel
theorem d_Mo_count_110 : decode b_Mo_count 110 = .ok (.getfield 157, 3) := by decide +kernel
theorem d_Mo_count_113 : decode b_Mo_count 113 = .ok (.if_icmp .ge 157, 3) := by decide +kernel
theorem d_Mo_count_116 : decode b_Mo_count 116 = .ok (.iload_n 1, 1) := by decide +kernel
theorem d_Mo_count_117 : decode b_Mo_count 117 = .ok (.iconst 3, 1) := by decide +kernel
theorem d_Mo_count_118 : decode b_Mo_count 118 = .ok (.if_icmp .ne 21, 3) := by decide +kernel
theorem d_Mo_count_121 : decode b_Mo_count 121 = .ok (.aload_n 0, 1) := by decide +kernel
theorem d_Mo_count_122 : decode b_Mo_count 122 = .ok (.getfield 51, 3) := by decide +kernel
theorem d_Mo_count_125 : decode b_Mo_count 125 = .ok (.iload_n 3, 1) := by decide +kernel
theorem d_Mo_count_126 : decode b_Mo_count 126 = .ok (.iaload, 1) := by decide +kernel
theorem d_Mo_count_127 : decode b_Mo_count 127 = .ok (.iconst (-1), 1) := by decide +kernel
theorem d_Mo_count_128 : decode b_Mo_count 128 = .ok (.if_icmp .eq 7, 3) := by decide +kernel
theorem d_Mo_count_131 : decode b_Mo_count 131 = .ok (.iconst 1, 1) := by decide +kernel
theorem d_Mo_count_132 : decode b_Mo_count 132 = .ok (.goto 117, 3) := by decide +kernel
theorem d_Mo_count_135 : decode b_Mo_count 135 = .ok (.iconst 0, 1) := by decide +kernel
theorem d_Mo_count_136 : decode b_Mo_count 136 = .ok (.goto 113, 3) := by decide +kernel
theorem d_Mo_count_139 : decode b_Mo_count 139 = .ok (.iload_n 1, 1) := by decide +kernel
theorem d_Mo_count_140 : decode b_Mo_count 140 = .ok (.iconst 4, 1) := by decide +kernel
theorem d_Mo_count_141 : decode b_Mo_count 141 = .ok (.if_icmp .ne 12, 3) := by decide +kernel
theorem d_Mo_count_144 : decode b_Mo_count 144 = .ok (.aload_n 0, 1) := by decide +kernel
theorem d_Mo_count_145 : decode b_Mo_count 145 = .ok (.getfield 38, 3) := by decide +kernel
theorem d_Mo_count_148 : decode b_Mo_count 148 = .ok (.iload_n 3, 1) := by decide +kernel
theorem d_Mo_count_149 : decode b_Mo_count 149 = .ok (.baload, 1) := by decide +kernel
theorem d_Mo_count_150 : decode b_Mo_count 150 = .ok (.goto 99, 3) := by decide +kernel
theorem d_Mo_count_153 : decode b_Mo_count 153 = .ok (.iload_n 1, 1) := by decide +kernel
theorem d_Mo_count_154 : decode b_Mo_count 154 = .ok (.iconst 5, 1) := by decide +kernel
theorem d_Mo_count_155 : decode b_Mo_count 155 = .ok (.if_icmp .ne 21, 3) := by decide +kernel
theorem d_Mo_count_158 : decode b_Mo_count 158 = .ok (.aload_n 0, 1) := by decide +kernel
theorem d_Mo_count_159 : decode b_Mo_count 159 = .ok (.getfield 54, 3) := by decide +kernel
theorem d_Mo_count_162 : decode b_Mo_count 162 = .ok (.iload_n 3, 1) := by decide +kernel
theorem d_Mo_count_163 : decode b_Mo_count 163 = .ok (.iaload, 1) := by decide +kernel
theorem d_Mo_count_164 : decode b_Mo_count 164 = .ok (.iconst (-1), 1) := by decide +kernel
theorem d_Mo_count_165 : decode b_Mo_count 165 = .ok (.if_icmp .eq 7, 3) := by decide +kernel
theorem d_Mo_count_168 : decode b_Mo_count 168 = .ok (.iconst 1, 1) := by decide +kernel
theorem d_Mo_count_169 : decode b_Mo_count 169 = .ok (.goto 80, 3) := by decide +kernel
theorem d_Mo_count_172 : decode b_Mo_count 172 = .ok (.iconst 0, 1) := by decide +kernel
theorem d_Mo_count_173 : decode b_Mo_count 173 = .ok (.goto 76, 3) := by decide +kernel
theorem d_Mo_count_176 : decode b_Mo_count 176 = .ok (.iload_n 1, 1) := by decide +kernel
theorem d_Mo_count_177 : decode b_Mo_count 177 = .ok (.bipush 6, 2) := by decide +kernel
theorem d_Mo_count_179 : decode b_Mo_count 179 = .ok (.if_icmp .ne 21, 3) := by decide +kernel
theorem d_Mo_count_182 : decode b_Mo_count 182 = .ok (.aload_n 0, 1) := by decide +kernel
theorem d_Mo_count_183 : decode b_Mo_count 183 = .ok (.getfield 57, 3) := by decide +kernel
theorem d_Mo_count_186 : decode b_Mo_count 186 = .ok (.iload_n 3, 1) := by decide +kernel
theorem d_Mo_count_187 : decode b_Mo_count 187 = .ok (.iaload, 1) := by decide +kernel
theorem d_Mo_count_188 : decode b_Mo_count 188 = .ok (.iconst (-1), 1) := by decide +kernel
theorem d_Mo_count_189 : decode b_Mo_count 189 = .ok (.if_icmp .eq 7, 3) := by decide +kernel
theorem d_Mo_count_192 : decode b_Mo_count 192 = .ok (.iconst 1, 1) := by decide +kernel
theorem d_Mo_count_193 : decode b_Mo_count 193 = .ok (.goto 56, 3) := by decide +kernel
theorem d_Mo_count_196 : decode b_Mo_count 196 = .ok (.iconst 0, 1) := by decide +kernel
theorem d_Mo_count_197 : decode b_Mo_count 197 = .ok (.goto 52, 3) := by decide +kernel
theorem d_Mo_count_200 : decode b_Mo_count 200 = .ok (.iload_n 1, 1) := by decide +kernel
theorem d_Mo_count_201 : decode b_Mo_count 201 = .ok (.bipush 7, 2) := by decide +kernel
theorem d_Mo_count_203 : decode b_Mo_count 203 = .ok (.if_icmp .ne 21, 3) := by decide +kernel
theorem d_Mo_count_206 : decode b_Mo_count 206 = .ok (.aload_n 0, 1) := by decide +kernel
theorem d_Mo_count_207 : decode b_Mo_count 207 = .ok (.getfield 60, 3) := by decide +kernel
theorem d_Mo_count_210 : decode b_Mo_count 210 = .ok (.iload_n 3, 1) := by decide +kernel
theorem d_Mo_count_211 : decode b_Mo_count 211 = .ok (.iaload, 1) := by decide +kernel
theorem d_Mo_count_212 : decode b_Mo_count 212 = .ok (.iconst (-1), 1) := by decide +kernel
theorem d_Mo_count_213 : decode b_Mo_count 213 = .ok (.if_icmp .eq 7, 3) := by decide +kernel
theorem d_Mo_count_216 : decode b_Mo_count 216 = .ok (.iconst 1, 1) := by decide +kernel
theorem d_Mo_count_217 : decode b_Mo_count 217 = .ok (.goto 32, 3) := by decide +kernel
theorem d_Mo_count_220 : decode b_Mo_count 220 = .ok (.iconst 0, 1) := by decide +kernel
theorem d_Mo_count_221 : decode b_Mo_count 221 = .ok (.goto 28, 3) := by decide +kernel
theorem d_Mo_count_224 : decode b_Mo_count 224 = .ok (.aload_n 0, 1) := by decide +kernel
theorem d_Mo_count_225 : decode b_Mo_count 225 = .ok (.getfield 51, 3) := by decide +kernel
theorem d_Mo_count_228 : decode b_Mo_count 228 = .ok (.iload_n 3, 1) := by decide +kernel
theorem d_Mo_count_229 : decode b_Mo_count 229 = .ok (.iaload, 1) := by decide +kernel
theorem d_Mo_count_230 : decode b_Mo_count 230 = .ok (.iconst (-1), 1) := by decide +kernel
theorem d_Mo_count_231 : decode b_Mo_count 231 = .ok (.if_icmp .eq 17, 3) := by decide +kernel
theorem d_Mo_count_234 : decode b_Mo_count 234 = .ok (.aload_n 0, 1) := by decide +kernel
theorem d_Mo_count_235 : decode b_Mo_count 235 = .ok (.getfield 54, 3) := by decide +kernel
theorem d_Mo_count_238 : decode b_Mo_count 238 = .ok (.iload_n 3, 1) := by decide +kernel
theorem d_Mo_count_239 : decode b_Mo_count 239 = .ok (.iaload, 1) := by decide +kernel
theorem d_Mo_count_240 : decode b_Mo_count 240 = .ok (.iconst (-1), 1) := by decide +kernel
theorem d_Mo_count_241 : decode b_Mo_count 241 = .ok (.if_icmp .ne 7, 3) := by decide +kernel
theorem d_Mo_count_244 : decode b_Mo_count 244 = .ok (.iconst 1, 1) := by decide +kernel
theorem d_Mo_count_245 : decode b_Mo_count 245 = .ok (.goto 4, 3) := by decide +kernel
theorem d_Mo_count_248 : decode b_Mo_count 248 = .ok (.iconst 0, 1) := by decide +kernel
theorem d_Mo_count_249 : decode b_Mo_count 249 = .ok (.istore 4, 2) := by decide +kernel
theorem d_Mo_count_251 : decode b_Mo_count 251 = .ok (.iload_n 2, 1) := by decide +kernel
theorem d_Mo_count_252 : decode b_Mo_count 252 = .ok (.iload 4, 2) := by decide +kernel
theorem d_Mo_count_254 : decode b_Mo_count 254 = .ok (.ifCond .eq 7, 3) := by decide +kernel
theorem d_Mo_count_257 : decode b_Mo_count 257 = .ok (.iconst 1, 1) := by decide +kernel
theorem d_Mo_count_258 : decode b_Mo_count 258 = .ok (.goto 4, 3) := by decide +kernel
theorem d_Mo_count_261 : decode b_Mo_count 261 = .ok (.iconst 0, 1) := by decide +kernel
theorem d_Mo_count_262 : decode b_Mo_count 262 = .ok (.iadd, 1) := by decide +kernel
theorem d_Mo_count_263 : decode b_Mo_count 263 = .ok (.istore_n 2, 1) := by decide +kernel
theorem d_Mo_count_264 : decode b_Mo_count 264 = .ok (.iinc 3 1, 3) := by decide +kernel
theorem d_Mo_count_267 : decode b_Mo_count 267 = .ok (.goto (-159), 3) := by decide +kernel
theorem d_Mo_count_270 : decode b_Mo_count 270 = .ok (.iload_n 2, 1) := by decide +kernel
theorem d_Mo_count_271 : decode b_Mo_count 271 = .ok (.ireturn, 1) := by decide +kernel
set_option maxRecDepth 100000 in
set_option maxHeartbeats 4000000 in
theorem S_Mo_count_0 {G : Gc} {M : Mc} {Q : State → Prop} {K : Option Value → Hp → Prop} (hG : gok G) (hM : mok G M r_Mo_count Q K) (v0 : Nat) (v1 : Int32) (h : Hp) (F : kT h v0 = 12 ∧ sem G r_Mo_lay [.ref v0] h (fun u2 h1 => u2 = none ∧ ((v1 = 0 → (kT h1 v0 = 12 ∧ K (some (.int (kI h1 v0 13))) h1)) ∧ (v1 = 1 → (kT h1 v0 = 12 ∧ K (some (.int (kI h1 v0 0))) h1)) ∧ (v1 = 2 → (kT h1 v0 = 12 ∧ K (some (.int (kI h1 v0 3))) h1)) ∧ (v1 = 3 → (sem G r_Mo_isIn [.int v1, .int 3, .int 8] h1 (fun u7 h6 => ∃ x8 : Int32, u7 = some (.int x8) ∧ ((x8 = 0 → K (some (.int (-2))) h6) ∧ (¬ x8 = 0 → X G M Q 108 [(0, .ref v0), (1, .int v1), (2, .int 0), (3, .int 0)] [] h6))))) ∧ (v1 = 4 → (sem G r_Mo_isIn [.int v1, .int 3, .int 8] h1 (fun u11 h10 => ∃ x12 : Int32, u11 = some (.int x12) ∧ ((x12 = 0 → K (some (.int (-2))) h10) ∧ (¬ x12 = 0 → X G M Q 108 [(0, .ref v0), (1, .int v1), (2, .int 0), (3, .int 0)] [] h10))))) ∧ (v1 = 5 → (sem G r_Mo_isIn [.int v1, .int 3, .int 8] h1 (fun u15 h14 => ∃ x16 : Int32, u15 = some (.int x16) ∧ ((x16 = 0 → K (some (.int (-2))) h14) ∧ (¬ x16 = 0 → X G M Q 108 [(0, .ref v0), (1, .int v1), (2, .int 0), (3, .int 0)] [] h14))))) ∧ (v1 = 6 → (sem G r_Mo_isIn [.int v1, .int 3, .int 8] h1 (fun u19 h18 => ∃ x20 : Int32, u19 = some (.int x20) ∧ ((x20 = 0 → K (some (.int (-2))) h18) ∧ (¬ x20 = 0 → X G M Q 108 [(0, .ref v0), (1, .int v1), (2, .int 0), (3, .int 0)] [] h18))))) ∧ (v1 = 7 → (sem G r_Mo_isIn [.int v1, .int 3, .int 8] h1 (fun u23 h22 => ∃ x24 : Int32, u23 = some (.int x24) ∧ ((x24 = 0 → K (some (.int (-2))) h22) ∧ (¬ x24 = 0 → X G M Q 108 [(0, .ref v0), (1, .int v1), (2, .int 0), (3, .int 0)] [] h22))))) ∧ (v1 = 8 → (sem G r_Mo_isIn [.int v1, .int 3, .int 8] h1 (fun u27 h26 => ∃ x28 : Int32, u27 = some (.int x28) ∧ ((x28 = 0 → K (some (.int (-2))) h26) ∧ (¬ x28 = 0 → X G M Q 108 [(0, .ref v0), (1, .int v1), (2, .int 0), (3, .int 0)] [] h26))))) ∧ (v1 = 9 → (kT h1 v0 = 12 ∧ sem G r_Mo_partAll [.ref v0] h1 (fun u31 h30 => u31 = none ∧ (kT h30 v0 = 12 ∧ K (some (.int (kI h30 v0 32))) h30)))) ∧ (v1 = 10 → (kT h1 v0 = 12 ∧ K (some (.int (kI h1 v0 9))) h1)) ∧ (¬ v1 = 0 → ¬ v1 = 1 → ¬ v1 = 2 → ¬ v1 = 3 → ¬ v1 = 4 → ¬ v1 = 5 → ¬ v1 = 6 → ¬ v1 = 7 → ¬ v1 = 8 → ¬ v1 = 9 → ¬ v1 = 10 → (sem G r_Mo_isIn [.int v1, .int 3, .int 8] h1 (fun u36 h35 => ∃ x37 : Int32, u36 = some (.int x37) ∧ ((x37 = 0 → K (some (.int (-2))) h35) ∧ (¬ x37 = 0 → X G M Q 108 [(0, .ref v0), (1, .int v1), (2, .int 0), (3, .int 0)] [] h35)))))))) : X G M Q 0 [(0, .ref v0), (1, .int v1)] [] h := by
  refine x_aload_n hM d_Mo_count_0 rfl 0 rfl ?_
  obtain ⟨c39, F⟩ := F
  refine x_callV hG hM (r' := r_Mo_lay) (ci := 11) [] rfl rfl (Nat.le_of_ble_eq_true rfl) yk_Mo_lay ⟨Nat.le_of_ble_eq_true rfl, Nat.le_of_ble_eq_true rfl⟩ w_1112 w_1114 ws_Mo_lay rfl rfl (Nat.le_of_ble_eq_true rfl) d_Mo_count_1 c39 (sem_mono F ?_)
  intro u2 h1 F
  obtain ⟨rfl, F⟩ := F
  refine x_iconst (v := 0) hM d_Mo_count_4 (by decide) ?_
  refine x_istore_n (lv2 := [(2, .int 0), (0, .ref v0), (1, .int v1)]) hM d_Mo_count_5 rfl (Nat.le_of_ble_eq_true rfl) rfl ?_
  refine x_iload_n hM d_Mo_count_6 rfl 2 rfl ?_
  by_cases q7_0 : v1 = 0
  · replace F := F.1 q7_0
    refine x_tblIn (tgt := 64) hM d_Mo_count_7 (by rw [q7_0]; decide) (by rw [q7_0]; decide) (by rw [q7_0]; rfl) (by decide) ?_
    refine x_aload_n hM d_Mo_count_64 rfl 1 rfl ?_
    obtain ⟨c3, F⟩ := F
    refine x_geti hG hM ck_Mo 13 (Nat.le_of_ble_eq_true rfl) rfl rfl w_910 rfl d_Mo_count_65 c3 ?_
    exact x_ireturn hM d_Mo_count_68 rfl F
  by_cases q7_1 : v1 = 1
  · replace F := F.2.1 q7_1
    refine x_tblIn (tgt := 69) hM d_Mo_count_7 (by rw [q7_1]; decide) (by rw [q7_1]; decide) (by rw [q7_1]; rfl) (by decide) ?_
    refine x_aload_n hM d_Mo_count_69 rfl 1 rfl ?_
    obtain ⟨c4, F⟩ := F
    refine x_geti hG hM ck_Mo 0 (Nat.le_of_ble_eq_true rfl) rfl rfl w_897 rfl d_Mo_count_70 c4 ?_
    exact x_ireturn hM d_Mo_count_73 rfl F
  by_cases q7_2 : v1 = 2
  · replace F := F.2.2.1 q7_2
    refine x_tblIn (tgt := 74) hM d_Mo_count_7 (by rw [q7_2]; decide) (by rw [q7_2]; decide) (by rw [q7_2]; rfl) (by decide) ?_
    refine x_aload_n hM d_Mo_count_74 rfl 1 rfl ?_
    obtain ⟨c5, F⟩ := F
    refine x_geti hG hM ck_Mo 3 (Nat.le_of_ble_eq_true rfl) rfl rfl w_900 rfl d_Mo_count_75 c5 ?_
    exact x_ireturn hM d_Mo_count_78 rfl F
  by_cases q7_3 : v1 = 3
  · replace F := F.2.2.2.1 q7_3
    refine x_tblIn (tgt := 93) hM d_Mo_count_7 (by rw [q7_3]; decide) (by rw [q7_3]; decide) (by rw [q7_3]; rfl) (by decide) ?_
    refine x_iload_n hM d_Mo_count_93 rfl 2 rfl ?_
    refine x_iconst (v := 3) hM d_Mo_count_94 (by decide) ?_
    refine x_bipush (v := 8) hM d_Mo_count_95 (by decide) ?_
    refine x_callS hG hM (r' := r_Mo_isIn) [.int v1, .int 3, .int 8] rfl yk_Mo_isIn ⟨Nat.le_of_ble_eq_true rfl, Nat.le_of_ble_eq_true rfl⟩ w_1017 w_1018 rfl rfl (Nat.le_of_ble_eq_true rfl) d_Mo_count_97 (sem_mono F ?_)
    intro u7 h6 F
    obtain ⟨x8, rfl, F⟩ := F
    refine x_if_ne (tgt := 106) hM d_Mo_count_100 (by decide) (fun q9 => ?_) (fun q9 => ?_)
    · replace F := F.2 q9
      refine x_iconst (v := 0) hM d_Mo_count_106 (by decide) ?_
      refine x_istore_n (lv2 := [(3, .int 0), (2, .int 0), (0, .ref v0), (1, .int v1)]) hM d_Mo_count_107 rfl (Nat.le_of_ble_eq_true rfl) rfl ?_
      refine x_sub [2, 3, 1, 0] rfl ?_
      exact F
    · replace F := F.1 q9
      refine x_bipush (v := (-2)) hM d_Mo_count_103 (by decide) ?_
      exact x_ireturn hM d_Mo_count_105 rfl F
  by_cases q7_4 : v1 = 4
  · replace F := F.2.2.2.2.1 q7_4
    refine x_tblIn (tgt := 93) hM d_Mo_count_7 (by rw [q7_4]; decide) (by rw [q7_4]; decide) (by rw [q7_4]; rfl) (by decide) ?_
    refine x_iload_n hM d_Mo_count_93 rfl 2 rfl ?_
    refine x_iconst (v := 3) hM d_Mo_count_94 (by decide) ?_
    refine x_bipush (v := 8) hM d_Mo_count_95 (by decide) ?_
    refine x_callS hG hM (r' := r_Mo_isIn) [.int v1, .int 3, .int 8] rfl yk_Mo_isIn ⟨Nat.le_of_ble_eq_true rfl, Nat.le_of_ble_eq_true rfl⟩ w_1017 w_1018 rfl rfl (Nat.le_of_ble_eq_true rfl) d_Mo_count_97 (sem_mono F ?_)
    intro u11 h10 F
    obtain ⟨x12, rfl, F⟩ := F
    refine x_if_ne (tgt := 106) hM d_Mo_count_100 (by decide) (fun q13 => ?_) (fun q13 => ?_)
    · replace F := F.2 q13
      refine x_iconst (v := 0) hM d_Mo_count_106 (by decide) ?_
      refine x_istore_n (lv2 := [(3, .int 0), (2, .int 0), (0, .ref v0), (1, .int v1)]) hM d_Mo_count_107 rfl (Nat.le_of_ble_eq_true rfl) rfl ?_
      refine x_sub [2, 3, 1, 0] rfl ?_
      exact F
    · replace F := F.1 q13
      refine x_bipush (v := (-2)) hM d_Mo_count_103 (by decide) ?_
      exact x_ireturn hM d_Mo_count_105 rfl F
  by_cases q7_5 : v1 = 5
  · replace F := F.2.2.2.2.2.1 q7_5
    refine x_tblIn (tgt := 93) hM d_Mo_count_7 (by rw [q7_5]; decide) (by rw [q7_5]; decide) (by rw [q7_5]; rfl) (by decide) ?_
    refine x_iload_n hM d_Mo_count_93 rfl 2 rfl ?_
    refine x_iconst (v := 3) hM d_Mo_count_94 (by decide) ?_
    refine x_bipush (v := 8) hM d_Mo_count_95 (by decide) ?_
    refine x_callS hG hM (r' := r_Mo_isIn) [.int v1, .int 3, .int 8] rfl yk_Mo_isIn ⟨Nat.le_of_ble_eq_true rfl, Nat.le_of_ble_eq_true rfl⟩ w_1017 w_1018 rfl rfl (Nat.le_of_ble_eq_true rfl) d_Mo_count_97 (sem_mono F ?_)
    intro u15 h14 F
    obtain ⟨x16, rfl, F⟩ := F
    refine x_if_ne (tgt := 106) hM d_Mo_count_100 (by decide) (fun q17 => ?_) (fun q17 => ?_)
    · replace F := F.2 q17
      refine x_iconst (v := 0) hM d_Mo_count_106 (by decide) ?_
      refine x_istore_n (lv2 := [(3, .int 0), (2, .int 0), (0, .ref v0), (1, .int v1)]) hM d_Mo_count_107 rfl (Nat.le_of_ble_eq_true rfl) rfl ?_
      refine x_sub [2, 3, 1, 0] rfl ?_
      exact F
    · replace F := F.1 q17
      refine x_bipush (v := (-2)) hM d_Mo_count_103 (by decide) ?_
      exact x_ireturn hM d_Mo_count_105 rfl F
  by_cases q7_6 : v1 = 6
  · replace F := F.2.2.2.2.2.2.1 q7_6
    refine x_tblIn (tgt := 93) hM d_Mo_count_7 (by rw [q7_6]; decide) (by rw [q7_6]; decide) (by rw [q7_6]; rfl) (by decide) ?_
    refine x_iload_n hM d_Mo_count_93 rfl 2 rfl ?_
    refine x_iconst (v := 3) hM d_Mo_count_94 (by decide) ?_
    refine x_bipush (v := 8) hM d_Mo_count_95 (by decide) ?_
    refine x_callS hG hM (r' := r_Mo_isIn) [.int v1, .int 3, .int 8] rfl yk_Mo_isIn ⟨Nat.le_of_ble_eq_true rfl, Nat.le_of_ble_eq_true rfl⟩ w_1017 w_1018 rfl rfl (Nat.le_of_ble_eq_true rfl) d_Mo_count_97 (sem_mono F ?_)
    intro u19 h18 F
    obtain ⟨x20, rfl, F⟩ := F
    refine x_if_ne (tgt := 106) hM d_Mo_count_100 (by decide) (fun q21 => ?_) (fun q21 => ?_)
    · replace F := F.2 q21
      refine x_iconst (v := 0) hM d_Mo_count_106 (by decide) ?_
      refine x_istore_n (lv2 := [(3, .int 0), (2, .int 0), (0, .ref v0), (1, .int v1)]) hM d_Mo_count_107 rfl (Nat.le_of_ble_eq_true rfl) rfl ?_
      refine x_sub [2, 3, 1, 0] rfl ?_
      exact F
    · replace F := F.1 q21
      refine x_bipush (v := (-2)) hM d_Mo_count_103 (by decide) ?_
      exact x_ireturn hM d_Mo_count_105 rfl F
  by_cases q7_7 : v1 = 7
  · replace F := F.2.2.2.2.2.2.2.1 q7_7
    refine x_tblIn (tgt := 93) hM d_Mo_count_7 (by rw [q7_7]; decide) (by rw [q7_7]; decide) (by rw [q7_7]; rfl) (by decide) ?_
    refine x_iload_n hM d_Mo_count_93 rfl 2 rfl ?_
    refine x_iconst (v := 3) hM d_Mo_count_94 (by decide) ?_
    refine x_bipush (v := 8) hM d_Mo_count_95 (by decide) ?_
    refine x_callS hG hM (r' := r_Mo_isIn) [.int v1, .int 3, .int 8] rfl yk_Mo_isIn ⟨Nat.le_of_ble_eq_true rfl, Nat.le_of_ble_eq_true rfl⟩ w_1017 w_1018 rfl rfl (Nat.le_of_ble_eq_true rfl) d_Mo_count_97 (sem_mono F ?_)
    intro u23 h22 F
    obtain ⟨x24, rfl, F⟩ := F
    refine x_if_ne (tgt := 106) hM d_Mo_count_100 (by decide) (fun q25 => ?_) (fun q25 => ?_)
    · replace F := F.2 q25
      refine x_iconst (v := 0) hM d_Mo_count_106 (by decide) ?_
      refine x_istore_n (lv2 := [(3, .int 0), (2, .int 0), (0, .ref v0), (1, .int v1)]) hM d_Mo_count_107 rfl (Nat.le_of_ble_eq_true rfl) rfl ?_
      refine x_sub [2, 3, 1, 0] rfl ?_
      exact F
    · replace F := F.1 q25
      refine x_bipush (v := (-2)) hM d_Mo_count_103 (by decide) ?_
      exact x_ireturn hM d_Mo_count_105 rfl F
  by_cases q7_8 : v1 = 8
  · replace F := F.2.2.2.2.2.2.2.2.1 q7_8
    refine x_tblIn (tgt := 93) hM d_Mo_count_7 (by rw [q7_8]; decide) (by rw [q7_8]; decide) (by rw [q7_8]; rfl) (by decide) ?_
    refine x_iload_n hM d_Mo_count_93 rfl 2 rfl ?_
    refine x_iconst (v := 3) hM d_Mo_count_94 (by decide) ?_
    refine x_bipush (v := 8) hM d_Mo_count_95 (by decide) ?_
    refine x_callS hG hM (r' := r_Mo_isIn) [.int v1, .int 3, .int 8] rfl yk_Mo_isIn ⟨Nat.le_of_ble_eq_true rfl, Nat.le_of_ble_eq_true rfl⟩ w_1017 w_1018 rfl rfl (Nat.le_of_ble_eq_true rfl) d_Mo_count_97 (sem_mono F ?_)
    intro u27 h26 F
    obtain ⟨x28, rfl, F⟩ := F
    refine x_if_ne (tgt := 106) hM d_Mo_count_100 (by decide) (fun q29 => ?_) (fun q29 => ?_)
    · replace F := F.2 q29
      refine x_iconst (v := 0) hM d_Mo_count_106 (by decide) ?_
      refine x_istore_n (lv2 := [(3, .int 0), (2, .int 0), (0, .ref v0), (1, .int v1)]) hM d_Mo_count_107 rfl (Nat.le_of_ble_eq_true rfl) rfl ?_
      refine x_sub [2, 3, 1, 0] rfl ?_
      exact F
    · replace F := F.1 q29
      refine x_bipush (v := (-2)) hM d_Mo_count_103 (by decide) ?_
      exact x_ireturn hM d_Mo_count_105 rfl F
  by_cases q7_9 : v1 = 9
  · replace F := F.2.2.2.2.2.2.2.2.2.1 q7_9
    refine x_tblIn (tgt := 79) hM d_Mo_count_7 (by rw [q7_9]; decide) (by rw [q7_9]; decide) (by rw [q7_9]; rfl) (by decide) ?_
    refine x_aload_n hM d_Mo_count_79 rfl 1 rfl ?_
    obtain ⟨c33, F⟩ := F
    refine x_callV hG hM (r' := r_Mo_partAll) (ci := 11) [] rfl rfl (Nat.le_of_ble_eq_true rfl) yk_Mo_partAll ⟨Nat.le_of_ble_eq_true rfl, Nat.le_of_ble_eq_true rfl⟩ w_1140 w_1142 ws_Mo_partAll rfl rfl (Nat.le_of_ble_eq_true rfl) d_Mo_count_80 c33 (sem_mono F ?_)
    intro u31 h30 F
    obtain ⟨rfl, F⟩ := F
    refine x_aload_n hM d_Mo_count_83 rfl 1 rfl ?_
    obtain ⟨c32, F⟩ := F
    refine x_geti hG hM ck_Mo 32 (Nat.le_of_ble_eq_true rfl) rfl rfl w_929 rfl d_Mo_count_84 c32 ?_
    exact x_ireturn hM d_Mo_count_87 rfl F
  by_cases q7_10 : v1 = 10
  · replace F := F.2.2.2.2.2.2.2.2.2.2.1 q7_10
    refine x_tblIn (tgt := 88) hM d_Mo_count_7 (by rw [q7_10]; decide) (by rw [q7_10]; decide) (by rw [q7_10]; rfl) (by decide) ?_
    refine x_aload_n hM d_Mo_count_88 rfl 1 rfl ?_
    obtain ⟨c34, F⟩ := F
    refine x_geti hG hM ck_Mo 9 (Nat.le_of_ble_eq_true rfl) rfl rfl w_906 rfl d_Mo_count_89 c34 ?_
    exact x_ireturn hM d_Mo_count_92 rfl F
  replace F := F.2.2.2.2.2.2.2.2.2.2.2 q7_0 q7_1 q7_2 q7_3 q7_4 q7_5 q7_6 q7_7 q7_8 q7_9 q7_10
  refine x_tblOut (tgt := 93) hM d_Mo_count_7 (sw_out10 q7_0 q7_1 q7_2 q7_3 q7_4 q7_5 q7_6 q7_7 q7_8 q7_9 q7_10) (by decide) ?_
  refine x_iload_n hM d_Mo_count_93 rfl 2 rfl ?_
  refine x_iconst (v := 3) hM d_Mo_count_94 (by decide) ?_
  refine x_bipush (v := 8) hM d_Mo_count_95 (by decide) ?_
  refine x_callS hG hM (r' := r_Mo_isIn) [.int v1, .int 3, .int 8] rfl yk_Mo_isIn ⟨Nat.le_of_ble_eq_true rfl, Nat.le_of_ble_eq_true rfl⟩ w_1017 w_1018 rfl rfl (Nat.le_of_ble_eq_true rfl) d_Mo_count_97 (sem_mono F ?_)
  intro u36 h35 F
  obtain ⟨x37, rfl, F⟩ := F
  refine x_if_ne (tgt := 106) hM d_Mo_count_100 (by decide) (fun q38 => ?_) (fun q38 => ?_)
  · replace F := F.2 q38
    refine x_iconst (v := 0) hM d_Mo_count_106 (by decide) ?_
    refine x_istore_n (lv2 := [(3, .int 0), (2, .int 0), (0, .ref v0), (1, .int v1)]) hM d_Mo_count_107 rfl (Nat.le_of_ble_eq_true rfl) rfl ?_
    refine x_sub [2, 3, 1, 0] rfl ?_
    exact F
  · replace F := F.1 q38
    refine x_bipush (v := (-2)) hM d_Mo_count_103 (by decide) ?_
    exact x_ireturn hM d_Mo_count_105 rfl F
set_option maxRecDepth 100000 in
set_option maxHeartbeats 4000000 in
theorem S_Mo_count_108 {G : Gc} {M : Mc} {Q : State → Prop} {K : Option Value → Hp → Prop} (hG : gok G) (hM : mok G M r_Mo_count Q K) (v0 : Nat) (v1 : Int32) (v2 : Int32) (v3 : Int32) (h : Hp) (F : kT h v0 = 12 ∧ (((kI h v0 13) ≤ v3 → K (some (.int v2)) h) ∧ (¬ (kI h v0 13) ≤ v3 → (((v1 = 3 → (kT h v0 = 12 ∧ kR h v0 19 = some (rf h v0 19) ∧ kT h (rf h v0 19) = 50 ∧ vp_in v3 (kN h (rf h v0 19)))) ∧ (¬ v1 = 3 → ((v1 = 4 → (kT h v0 = 12 ∧ kR h v0 15 = some (rf h v0 15) ∧ kT h (rf h v0 15) = 51 ∧ vp_in v3 (kN h (rf h v0 15)))) ∧ (¬ v1 = 4 → ((v1 = 5 → (kT h v0 = 12 ∧ kR h v0 20 = some (rf h v0 20) ∧ kT h (rf h v0 20) = 50 ∧ vp_in v3 (kN h (rf h v0 20)))) ∧ (¬ v1 = 5 → ((v1 = 6 → (kT h v0 = 12 ∧ kR h v0 21 = some (rf h v0 21) ∧ kT h (rf h v0 21) = 50 ∧ vp_in v3 (kN h (rf h v0 21)))) ∧ (¬ v1 = 6 → ((v1 = 7 → (kT h v0 = 12 ∧ kR h v0 22 = some (rf h v0 22) ∧ kT h (rf h v0 22) = 50 ∧ vp_in v3 (kN h (rf h v0 22)))) ∧ (¬ v1 = 7 → (kT h v0 = 12 ∧ kR h v0 19 = some (rf h v0 19) ∧ kT h (rf h v0 19) = 50 ∧ vp_in v3 (kN h (rf h v0 19)) ∧ (¬ (kI h (rf h v0 19) (Int32.toNatClampNeg v3)) = (-1) → (kT h v0 = 12 ∧ kR h v0 20 = some (rf h v0 20) ∧ kT h (rf h v0 20) = 50 ∧ vp_in v3 (kN h (rf h v0 20))))))))))))))) ∧ (∀ z1 : Int32, z1 = (if v1 = 3 then (if (kI h (rf h v0 19) (Int32.toNatClampNeg v3)) = (-1) then 0 else 1) else (if v1 = 4 then (kI h (rf h v0 15) (Int32.toNatClampNeg v3)) else (if v1 = 5 then (if (kI h (rf h v0 20) (Int32.toNatClampNeg v3)) = (-1) then 0 else 1) else (if v1 = 6 then (if (kI h (rf h v0 21) (Int32.toNatClampNeg v3)) = (-1) then 0 else 1) else (if v1 = 7 then (if (kI h (rf h v0 22) (Int32.toNatClampNeg v3)) = (-1) then 0 else 1) else (if (kI h (rf h v0 19) (Int32.toNatClampNeg v3)) = (-1) then 0 else (if (kI h (rf h v0 20) (Int32.toNatClampNeg v3)) = (-1) then 1 else 0))))))) → (∀ z2 : Int32, z2 = (if z1 = 0 then 0 else 1) → X G M Q 108 [(0, .ref v0), (1, .int v1), (2, .int (v2 + z2)), (3, .int (v3 + 1))] [] h)))))) : X G M Q 108 [(0, .ref v0), (1, .int v1), (2, .int v2), (3, .int v3)] [] h := by
  refine x_iload_n hM d_Mo_count_108 rfl 3 rfl ?_
  refine x_aload_n hM d_Mo_count_109 rfl 0 rfl ?_
  obtain ⟨c44, F⟩ := F
  refine x_geti hG hM ck_Mo 13 (Nat.le_of_ble_eq_true rfl) rfl rfl w_910 rfl d_Mo_count_110 c44 ?_
  refine x_icmp_ge (tgt := 270) hM d_Mo_count_113 (by decide) (fun q43 => ?_) (fun q43 => ?_)
  · replace F := F.1 q43
    refine x_iload_n hM d_Mo_count_270 rfl 2 rfl ?_
    exact x_ireturn hM d_Mo_count_271 rfl F
  · replace F := F.2 q43
    refine x_iload_n hM d_Mo_count_116 rfl 1 rfl ?_
    refine x_iconst (v := 3) hM d_Mo_count_117 (by decide) ?_
    obtain ⟨S, F⟩ := F
    have JJ : ∀ (z1 : Int32) (ez1 : z1 = (if v1 = 3 then (if (kI h (rf h v0 19) (Int32.toNatClampNeg v3)) = (-1) then 0 else 1) else (if v1 = 4 then (kI h (rf h v0 15) (Int32.toNatClampNeg v3)) else (if v1 = 5 then (if (kI h (rf h v0 20) (Int32.toNatClampNeg v3)) = (-1) then 0 else 1) else (if v1 = 6 then (if (kI h (rf h v0 21) (Int32.toNatClampNeg v3)) = (-1) then 0 else 1) else (if v1 = 7 then (if (kI h (rf h v0 22) (Int32.toNatClampNeg v3)) = (-1) then 0 else 1) else (if (kI h (rf h v0 19) (Int32.toNatClampNeg v3)) = (-1) then 0 else (if (kI h (rf h v0 20) (Int32.toNatClampNeg v3)) = (-1) then 1 else 0)))))))), X G M Q 249 [(0, .ref v0), (1, .int v1), (2, .int v2), (3, .int v3)] [.int z1] h := by
      intro z1 ez1
      replace F := F _ ez1
      refine x_istore (lv2 := [(4, .int z1), (0, .ref v0), (1, .int v1), (2, .int v2), (3, .int v3)]) hM d_Mo_count_249 (Nat.le_of_ble_eq_true rfl) rfl ?_
      refine x_iload_n hM d_Mo_count_251 rfl 3 rfl ?_
      refine x_iload hM d_Mo_count_252 0 rfl ?_
      have JJ : ∀ (z2 : Int32) (ez2 : z2 = (if z1 = 0 then 0 else 1)), X G M Q 262 [(0, .ref v0), (1, .int v1), (3, .int v3)] [.int z2, .int v2] h := by
        intro z2 ez2
        replace F := F _ ez2
        refine x_iadd hM d_Mo_count_262 ?_
        refine x_istore_n (lv2 := [(2, .int (v2 + z2)), (0, .ref v0), (1, .int v1), (3, .int v3)]) hM d_Mo_count_263 rfl (Nat.le_of_ble_eq_true rfl) rfl ?_
        refine x_iinc (v := (v3 + 1)) (lv2 := [(3, .int (v3 + 1)), (2, .int (v2 + z2)), (0, .ref v0), (1, .int v1)]) hM d_Mo_count_264 (j := 3) rfl rfl (Nat.le_of_ble_eq_true rfl) rfl ?_
        refine x_goto (tgt := 108) hM d_Mo_count_267 (by decide) ?_
        refine x_sub [2, 3, 1, 0] rfl ?_
        exact F
      refine x_if_eq (tgt := 261) hM d_Mo_count_254 (by decide) (fun q3 => ?_) (fun q3 => ?_)
      · refine x_iconst (v := 0) hM d_Mo_count_261 (by decide) ?_
        refine x_sub [1, 2, 4] rfl ?_
        exact JJ _ (Eq.symm (if_pos q3))
      · refine x_iconst (v := 1) hM d_Mo_count_257 (by decide) ?_
        refine x_goto (tgt := 262) hM d_Mo_count_258 (by decide) ?_
        refine x_sub [1, 2, 4] rfl ?_
        exact JJ _ (Eq.symm (if_neg q3))
    refine x_icmp_ne (tgt := 139) hM d_Mo_count_118 (by decide) (fun q4 => ?_) (fun q4 => ?_)
    · replace S := S.2 q4
      refine x_iload_n hM d_Mo_count_139 rfl 1 rfl ?_
      refine x_iconst (v := 4) hM d_Mo_count_140 (by decide) ?_
      refine x_icmp_ne (tgt := 153) hM d_Mo_count_141 (by decide) (fun q5 => ?_) (fun q5 => ?_)
      · replace S := S.2 q5
        refine x_iload_n hM d_Mo_count_153 rfl 1 rfl ?_
        refine x_iconst (v := 5) hM d_Mo_count_154 (by decide) ?_
        refine x_icmp_ne (tgt := 176) hM d_Mo_count_155 (by decide) (fun q6 => ?_) (fun q6 => ?_)
        · replace S := S.2 q6
          refine x_iload_n hM d_Mo_count_176 rfl 1 rfl ?_
          refine x_bipush (v := 6) hM d_Mo_count_177 (by decide) ?_
          refine x_icmp_ne (tgt := 200) hM d_Mo_count_179 (by decide) (fun q7 => ?_) (fun q7 => ?_)
          · replace S := S.2 q7
            refine x_iload_n hM d_Mo_count_200 rfl 1 rfl ?_
            refine x_bipush (v := 7) hM d_Mo_count_201 (by decide) ?_
            refine x_icmp_ne (tgt := 224) hM d_Mo_count_203 (by decide) (fun q8 => ?_) (fun q8 => ?_)
            · replace S := S.2 q8
              refine x_aload_n hM d_Mo_count_224 rfl 0 rfl ?_
              obtain ⟨c9, S⟩ := S
              obtain ⟨c10, S⟩ := S
              refine x_getr hG hM ck_Mo 19 (Nat.le_of_ble_eq_true rfl) rfl rfl w_916 rfl d_Mo_count_225 c9 c10 ?_
              refine x_iload_n hM d_Mo_count_228 rfl 3 rfl ?_
              obtain ⟨c11, S⟩ := S
              obtain ⟨c12, S⟩ := S
              refine x_iaload hG hM d_Mo_count_229 c11 c12 ?_
              refine x_iconst (v := (-1)) hM d_Mo_count_230 (by decide) ?_
              refine x_icmp_eq (tgt := 248) hM d_Mo_count_231 (by decide) (fun q13 => ?_) (fun q13 => ?_)
              · refine x_iconst (v := 0) hM d_Mo_count_248 (by decide) ?_
                exact JJ _ (Eq.symm (Eq.trans (if_neg q4) (Eq.trans (if_neg q5) (Eq.trans (if_neg q6) (Eq.trans (if_neg q7) (Eq.trans (if_neg q8) (if_pos q13)))))))
              · replace S := S q13
                refine x_aload_n hM d_Mo_count_234 rfl 0 rfl ?_
                obtain ⟨c14, S⟩ := S
                obtain ⟨c15, S⟩ := S
                refine x_getr hG hM ck_Mo 20 (Nat.le_of_ble_eq_true rfl) rfl rfl w_917 rfl d_Mo_count_235 c14 c15 ?_
                refine x_iload_n hM d_Mo_count_238 rfl 3 rfl ?_
                obtain ⟨c16, S⟩ := S
                have c17 := S
                refine x_iaload hG hM d_Mo_count_239 c16 c17 ?_
                refine x_iconst (v := (-1)) hM d_Mo_count_240 (by decide) ?_
                refine x_icmp_ne (tgt := 248) hM d_Mo_count_241 (by decide) (fun q18 => ?_) (fun q18 => ?_)
                · refine x_iconst (v := 0) hM d_Mo_count_248 (by decide) ?_
                  exact JJ _ (Eq.symm (Eq.trans (if_neg q4) (Eq.trans (if_neg q5) (Eq.trans (if_neg q6) (Eq.trans (if_neg q7) (Eq.trans (if_neg q8) (Eq.trans (if_neg q13) (if_neg q18))))))))
                · refine x_iconst (v := 1) hM d_Mo_count_244 (by decide) ?_
                  refine x_goto (tgt := 249) hM d_Mo_count_245 (by decide) ?_
                  exact JJ _ (Eq.symm (Eq.trans (if_neg q4) (Eq.trans (if_neg q5) (Eq.trans (if_neg q6) (Eq.trans (if_neg q7) (Eq.trans (if_neg q8) (Eq.trans (if_neg q13) (if_pos q18))))))))
            · replace S := S.1 q8
              refine x_aload_n hM d_Mo_count_206 rfl 0 rfl ?_
              obtain ⟨c19, S⟩ := S
              obtain ⟨c20, S⟩ := S
              refine x_getr hG hM ck_Mo 22 (Nat.le_of_ble_eq_true rfl) rfl rfl w_919 rfl d_Mo_count_207 c19 c20 ?_
              refine x_iload_n hM d_Mo_count_210 rfl 3 rfl ?_
              obtain ⟨c21, S⟩ := S
              have c22 := S
              refine x_iaload hG hM d_Mo_count_211 c21 c22 ?_
              refine x_iconst (v := (-1)) hM d_Mo_count_212 (by decide) ?_
              refine x_icmp_eq (tgt := 220) hM d_Mo_count_213 (by decide) (fun q23 => ?_) (fun q23 => ?_)
              · refine x_iconst (v := 0) hM d_Mo_count_220 (by decide) ?_
                refine x_goto (tgt := 249) hM d_Mo_count_221 (by decide) ?_
                exact JJ _ (Eq.symm (Eq.trans (if_neg q4) (Eq.trans (if_neg q5) (Eq.trans (if_neg q6) (Eq.trans (if_neg q7) (Eq.trans (if_pos q8) (if_pos q23)))))))
              · refine x_iconst (v := 1) hM d_Mo_count_216 (by decide) ?_
                refine x_goto (tgt := 249) hM d_Mo_count_217 (by decide) ?_
                exact JJ _ (Eq.symm (Eq.trans (if_neg q4) (Eq.trans (if_neg q5) (Eq.trans (if_neg q6) (Eq.trans (if_neg q7) (Eq.trans (if_pos q8) (if_neg q23)))))))
          · replace S := S.1 q7
            refine x_aload_n hM d_Mo_count_182 rfl 0 rfl ?_
            obtain ⟨c24, S⟩ := S
            obtain ⟨c25, S⟩ := S
            refine x_getr hG hM ck_Mo 21 (Nat.le_of_ble_eq_true rfl) rfl rfl w_918 rfl d_Mo_count_183 c24 c25 ?_
            refine x_iload_n hM d_Mo_count_186 rfl 3 rfl ?_
            obtain ⟨c26, S⟩ := S
            have c27 := S
            refine x_iaload hG hM d_Mo_count_187 c26 c27 ?_
            refine x_iconst (v := (-1)) hM d_Mo_count_188 (by decide) ?_
            refine x_icmp_eq (tgt := 196) hM d_Mo_count_189 (by decide) (fun q28 => ?_) (fun q28 => ?_)
            · refine x_iconst (v := 0) hM d_Mo_count_196 (by decide) ?_
              refine x_goto (tgt := 249) hM d_Mo_count_197 (by decide) ?_
              exact JJ _ (Eq.symm (Eq.trans (if_neg q4) (Eq.trans (if_neg q5) (Eq.trans (if_neg q6) (Eq.trans (if_pos q7) (if_pos q28))))))
            · refine x_iconst (v := 1) hM d_Mo_count_192 (by decide) ?_
              refine x_goto (tgt := 249) hM d_Mo_count_193 (by decide) ?_
              exact JJ _ (Eq.symm (Eq.trans (if_neg q4) (Eq.trans (if_neg q5) (Eq.trans (if_neg q6) (Eq.trans (if_pos q7) (if_neg q28))))))
        · replace S := S.1 q6
          refine x_aload_n hM d_Mo_count_158 rfl 0 rfl ?_
          obtain ⟨c29, S⟩ := S
          obtain ⟨c30, S⟩ := S
          refine x_getr hG hM ck_Mo 20 (Nat.le_of_ble_eq_true rfl) rfl rfl w_917 rfl d_Mo_count_159 c29 c30 ?_
          refine x_iload_n hM d_Mo_count_162 rfl 3 rfl ?_
          obtain ⟨c31, S⟩ := S
          have c32 := S
          refine x_iaload hG hM d_Mo_count_163 c31 c32 ?_
          refine x_iconst (v := (-1)) hM d_Mo_count_164 (by decide) ?_
          refine x_icmp_eq (tgt := 172) hM d_Mo_count_165 (by decide) (fun q33 => ?_) (fun q33 => ?_)
          · refine x_iconst (v := 0) hM d_Mo_count_172 (by decide) ?_
            refine x_goto (tgt := 249) hM d_Mo_count_173 (by decide) ?_
            exact JJ _ (Eq.symm (Eq.trans (if_neg q4) (Eq.trans (if_neg q5) (Eq.trans (if_pos q6) (if_pos q33)))))
          · refine x_iconst (v := 1) hM d_Mo_count_168 (by decide) ?_
            refine x_goto (tgt := 249) hM d_Mo_count_169 (by decide) ?_
            exact JJ _ (Eq.symm (Eq.trans (if_neg q4) (Eq.trans (if_neg q5) (Eq.trans (if_pos q6) (if_neg q33)))))
      · replace S := S.1 q5
        refine x_aload_n hM d_Mo_count_144 rfl 0 rfl ?_
        obtain ⟨c34, S⟩ := S
        obtain ⟨c35, S⟩ := S
        refine x_getr hG hM ck_Mo 15 (Nat.le_of_ble_eq_true rfl) rfl rfl w_912 rfl d_Mo_count_145 c34 c35 ?_
        refine x_iload_n hM d_Mo_count_148 rfl 3 rfl ?_
        obtain ⟨c36, S⟩ := S
        have c37 := S
        refine x_zaload hG hM d_Mo_count_149 c36 c37 ?_
        refine x_goto (tgt := 249) hM d_Mo_count_150 (by decide) ?_
        exact JJ _ (Eq.symm (Eq.trans (if_neg q4) (if_pos q5)))
    · replace S := S.1 q4
      refine x_aload_n hM d_Mo_count_121 rfl 0 rfl ?_
      obtain ⟨c38, S⟩ := S
      obtain ⟨c39, S⟩ := S
      refine x_getr hG hM ck_Mo 19 (Nat.le_of_ble_eq_true rfl) rfl rfl w_916 rfl d_Mo_count_122 c38 c39 ?_
      refine x_iload_n hM d_Mo_count_125 rfl 3 rfl ?_
      obtain ⟨c40, S⟩ := S
      have c41 := S
      refine x_iaload hG hM d_Mo_count_126 c40 c41 ?_
      refine x_iconst (v := (-1)) hM d_Mo_count_127 (by decide) ?_
      refine x_icmp_eq (tgt := 135) hM d_Mo_count_128 (by decide) (fun q42 => ?_) (fun q42 => ?_)
      · refine x_iconst (v := 0) hM d_Mo_count_135 (by decide) ?_
        refine x_goto (tgt := 249) hM d_Mo_count_136 (by decide) ?_
        exact JJ _ (Eq.symm (Eq.trans (if_pos q4) (if_pos q42)))
      · refine x_iconst (v := 1) hM d_Mo_count_131 (by decide) ?_
        refine x_goto (tgt := 249) hM d_Mo_count_132 (by decide) ?_
        exact JJ _ (Eq.symm (Eq.trans (if_pos q4) (if_neg q42)))
