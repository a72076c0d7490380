theorem d_Mo_init_0 : decode b_Mo_init 0 = .ok (.aload_n 0, 1) := by decide +kernel
theorem d_Mo_init_1 : decode b_Mo_init 1 = .ok (.invokespecial 1, 3) := by decide +kernel
theorem d_Mo_init_4 : decode b_Mo_init 4 = .ok (.aload_n 0, 1) := by decide +kernel
theorem d_Mo_init_5 : decode b_Mo_init 5 = .ok (.bipush 8, 2) := by decide +kernel
theorem d_Mo_init_7 : decode b_Mo_init 7 = .ok (.newarray .int, 2) := by decide +kernel
theorem d_Mo_init_9 : decode b_Mo_init 9 = .ok (.putfield 7, 3) := by decide +kernel
theorem d_Mo_init_12 : decode b_Mo_init 12 = .ok (.aload_n 0, 1) := by decide +kernel
theorem d_Mo_init_13 : decode b_Mo_init 13 = .ok (.bipush 12, 2) := by decide +kernel
theorem d_Mo_init_15 : decode b_Mo_init 15 = .ok (.newarray .int, 2) := by decide +kernel
theorem d_Mo_init_17 : decode b_Mo_init 17 = .ok (.putfield 13, 3) := by decide +kernel
theorem d_Mo_init_20 : decode b_Mo_init 20 = .ok (.aload_n 0, 1) := by decide +kernel
theorem d_Mo_init_21 : decode b_Mo_init 21 = .ok (.bipush 19, 2) := by decide +kernel
theorem d_Mo_init_23 : decode b_Mo_init 23 = .ok (.newarray .int, 2) := by decide +kernel
theorem d_Mo_init_25 : decode b_Mo_init 25 = .ok (.putfield 16, 3) := by decide +kernel
theorem d_Mo_init_28 : decode b_Mo_init 28 = .ok (.aload_n 0, 1) := by decide +kernel
theorem d_Mo_init_29 : decode b_Mo_init 29 = .ok (.sipush 228, 3) := by decide +kernel
theorem d_Mo_init_32 : decode b_Mo_init 32 = .ok (.newarray .int, 2) := by decide +kernel
theorem d_Mo_init_34 : decode b_Mo_init 34 = .ok (.putfield 19, 3) := by decide +kernel
theorem d_Mo_init_37 : decode b_Mo_init 37 = .ok (.aload_n 0, 1) := by decide +kernel
theorem d_Mo_init_38 : decode b_Mo_init 38 = .ok (.bipush 36, 2) := by decide +kernel
theorem d_Mo_init_40 : decode b_Mo_init 40 = .ok (.newarray .int, 2) := by decide +kernel
theorem d_Mo_init_42 : decode b_Mo_init 42 = .ok (.putfield 22, 3) := by decide +kernel
theorem d_Mo_init_45 : decode b_Mo_init 45 = .ok (.aload_n 0, 1) := by decide +kernel
theorem d_Mo_init_46 : decode b_Mo_init 46 = .ok (.sipush 432, 3) := by decide +kernel
theorem d_Mo_init_49 : decode b_Mo_init 49 = .ok (.newarray .int, 2) := by decide +kernel
theorem d_Mo_init_51 : decode b_Mo_init 51 = .ok (.putfield 25, 3) := by decide +kernel
theorem d_Mo_init_54 : decode b_Mo_init 54 = .ok (.aload_n 0, 1) := by decide +kernel
theorem d_Mo_init_55 : decode b_Mo_init 55 = .ok (.bipush 8, 2) := by decide +kernel
theorem d_Mo_init_57 : decode b_Mo_init 57 = .ok (.newarray .int, 2) := by decide +kernel
theorem d_Mo_init_59 : decode b_Mo_init 59 = .ok (.putfield 28, 3) := by decide +kernel
theorem d_Mo_init_62 : decode b_Mo_init 62 = .ok (.aload_n 0, 1) := by decide +kernel
theorem d_Mo_init_63 : decode b_Mo_init 63 = .ok (.bipush 8, 2) := by decide +kernel
theorem d_Mo_init_65 : decode b_Mo_init 65 = .ok (.newarray .int, 2) := by decide +kernel
theorem d_Mo_init_67 : decode b_Mo_init 67 = .ok (.putfield 31, 3) := by decide +kernel
theorem d_Mo_init_70 : decode b_Mo_init 70 = .ok (.aload_n 0, 1) := by decide +kernel
theorem d_Mo_init_71 : decode b_Mo_init 71 = .ok (.ldc 34, 2) := by decide +kernel
theorem d_Mo_init_73 : decode b_Mo_init 73 = .ok (.newarray .int, 2) := by decide +kernel
theorem d_Mo_init_75 : decode b_Mo_init 75 = .ok (.putfield 35, 3) := by decide +kernel
theorem d_Mo_init_78 : decode b_Mo_init 78 = .ok (.aload_n 0, 1) := by decide +kernel
theorem d_Mo_init_79 : decode b_Mo_init 79 = .ok (.sipush 4096, 3) := by decide +kernel
theorem d_Mo_init_82 : decode b_Mo_init 82 = .ok (.newarray .boolean, 2) := by decide +kernel
theorem d_Mo_init_84 : decode b_Mo_init 84 = .ok (.putfield 38, 3) := by decide +kernel
theorem d_Mo_init_87 : decode b_Mo_init 87 = .ok (.aload_n 0, 1) := by decide +kernel
theorem d_Mo_init_88 : decode b_Mo_init 88 = .ok (.sipush 4096, 3) := by decide +kernel
theorem d_Mo_init_91 : decode b_Mo_init 91 = .ok (.newarray .int, 2) := by decide +kernel
theorem d_Mo_init_93 : decode b_Mo_init 93 = .ok (.putfield 42, 3) := by decide +kernel
theorem d_Mo_init_96 : decode b_Mo_init 96 = .ok (.aload_n 0, 1) := by decide +kernel
theorem d_Mo_init_97 : decode b_Mo_init 97 = .ok (.ldc 34, 2) := by decide +kernel
theorem d_Mo_init_99 : decode b_Mo_init 99 = .ok (.newarray .int, 2) := by decide +kernel
theorem d_Mo_init_101 : decode b_Mo_init 101 = .ok (.putfield 45, 3) := by decide +kernel
theorem d_Mo_init_104 : decode b_Mo_init 104 = .ok (.aload_n 0, 1) := by decide +kernel
theorem d_Mo_init_105 : decode b_Mo_init 105 = .ok (.ldc 34, 2) := by decide +kernel
theorem d_Mo_init_107 : decode b_Mo_init 107 = .ok (.newarray .int, 2) := by decide +kernel
theorem d_Mo_init_109 : decode b_Mo_init 109 = .ok (.putfield 48, 3) := by decide +kernel
theorem d_Mo_init_112 : decode b_Mo_init 112 = .ok (.aload_n 0, 1) := by decide +kernel
theorem d_Mo_init_113 : decode b_Mo_init 113 = .ok (.sipush 4096, 3) := by decide +kernel
theorem d_Mo_init_116 : decode b_Mo_init 116 = .ok (.newarray .int, 2) := by decide +kernel
theorem d_Mo_init_118 : decode b_Mo_init 118 = .ok (.putfield 51, 3) := by decide +kernel
theorem d_Mo_init_121 : decode b_Mo_init 121 = .ok (.aload_n 0, 1) := by decide +kernel
theorem d_Mo_init_122 : decode b_Mo_init 122 = .ok (.sipush 4096, 3) := by decide +kernel
theorem d_Mo_init_125 : decode b_Mo_init 125 = .ok (.newarray .int, 2) := by decide +kernel
theorem d_Mo_init_127 : decode b_Mo_init 127 = .ok (.putfield 54, 3) := by decide +kernel
theorem d_Mo_init_130 : decode b_Mo_init 130 = .ok (.aload_n 0, 1) := by decide +kernel
theorem d_Mo_init_131 : decode b_Mo_init 131 = .ok (.sipush 4096, 3) := by decide +kernel
theorem d_Mo_init_134 : decode b_Mo_init 134 = .ok (.newarray .int, 2) := by decide +kernel
theorem d_Mo_init_136 : decode b_Mo_init 136 = .ok (.putfield 57, 3) := by decide +kernel
theorem d_Mo_init_139 : decode b_Mo_init 139 = .ok (.aload_n 0, 1) := by decide +kernel
theorem d_Mo_init_140 : decode b_Mo_init 140 = .ok (.sipush 4096, 3) := by decide +kernel
theorem d_Mo_init_143 : decode b_Mo_init 143 = .ok (.newarray .int, 2) := by decide +kernel
theorem d_Mo_init_145 : decode b_Mo_init 145 = .ok (.putfield 60, 3) := by decide +kernel
theorem d_Mo_init_148 : decode b_Mo_init 148 = .ok (.aload_n 0, 1) := by decide +kernel
theorem d_Mo_init_149 : decode b_Mo_init 149 = .ok (.sipush 4096, 3) := by decide +kernel
theorem d_Mo_init_152 : decode b_Mo_init 152 = .ok (.newarray .int, 2) := by decide +kernel
theorem d_Mo_init_154 : decode b_Mo_init 154 = .ok (.putfield 63, 3) := by decide +kernel
theorem d_Mo_init_157 : decode b_Mo_init 157 = .ok (.aload_n 0, 1) := by decide +kernel
theorem d_Mo_init_158 : decode b_Mo_init 158 = .ok (.ldc 66, 2) := by decide +kernel
theorem d_Mo_init_160 : decode b_Mo_init 160 = .ok (.newarray .int, 2) := by decide +kernel
theorem d_Mo_init_162 : decode b_Mo_init 162 = .ok (.putfield 67, 3) := by decide +kernel
theorem d_Mo_init_165 : decode b_Mo_init 165 = .ok (.aload_n 0, 1) := by decide +kernel
theorem d_Mo_init_166 : decode b_Mo_init 166 = .ok (.sipush 4096, 3) := by decide +kernel
theorem d_Mo_init_169 : decode b_Mo_init 169 = .ok (.newarray .boolean, 2) := by decide +kernel
theorem d_Mo_init_171 : decode b_Mo_init 171 = .ok (.putfield 70, 3) := by decide +kernel
theorem d_Mo_init_174 : decode b_Mo_init 174 = .ok (.aload_n 0, 1) := by decide +kernel
theorem d_Mo_init_175 : decode b_Mo_init 175 = .ok (.sipush 4096, 3) := by decide +kernel
theorem d_Mo_init_178 : decode b_Mo_init 178 = .ok (.newarray .int, 2) := by decide +kernel
theorem d_Mo_init_180 : decode b_Mo_init 180 = .ok (.putfield 73, 3) := by decide +kernel
theorem d_Mo_init_183 : decode b_Mo_init 183 = .ok (.aload_n 0, 1) := by decide +kernel
theorem d_Mo_init_184 : decode b_Mo_init 184 = .ok (.sipush 4096, 3) := by decide +kernel
theorem d_Mo_init_187 : decode b_Mo_init 187 = .ok (.newarray .int, 2) := by decide +kernel
theorem d_Mo_init_189 : decode b_Mo_init 189 = .ok (.putfield 76, 3) := by decide +kernel
theorem d_Mo_init_192 : decode b_Mo_init 192 = .ok (.aload_n 0, 1) := by decide +kernel
theorem d_Mo_init_193 : decode b_Mo_init 193 = .ok (.sipush 4096, 3) := by decide +kernel
theorem d_Mo_init_196 : decode b_Mo_init 196 = .ok (.newarray .long, 2) := by decide +kernel
theorem d_Mo_init_198 : decode b_Mo_init 198 = .ok (.putfield 79, 3) := by decide +kernel
theorem d_Mo_init_201 : decode b_Mo_init 201 = .ok (.aload_n 0, 1) := by decide +kernel
theorem d_Mo_init_202 : decode b_Mo_init 202 = .ok (.sipush 8192, 3) := by decide +kernel
theorem d_Mo_init_205 : decode b_Mo_init 205 = .ok (.newarray .int, 2) := by decide +kernel
theorem d_Mo_init_207 : decode b_Mo_init 207 = .ok (.putfield 83, 3) := by decide +kernel
theorem d_Mo_init_210 : decode b_Mo_init 210 = .ok (.aload_n 0, 1) := by decide +kernel
theorem d_Mo_init_211 : decode b_Mo_init 211 = .ok (.sipush 4096, 3) := by decide +kernel
theorem d_Mo_init_214 : decode b_Mo_init 214 = .ok (.newarray .int, 2) := by decide +kernel
theorem d_Mo_init_216 : decode b_Mo_init 216 = .ok (.putfield 86, 3) := by decide +kernel
theorem d_Mo_init_219 : decode b_Mo_init 219 = .ok (.aload_n 0, 1) := by decide +kernel
theorem d_Mo_init_220 : decode b_Mo_init 220 = .ok (.sipush 4096, 3) := by decide +kernel
theorem d_Mo_init_223 : decode b_Mo_init 223 = .ok (.newarray .long, 2) := by decide +kernel
theorem d_Mo_init_225 : decode b_Mo_init 225 = .ok (.putfield 89, 3) := by decide +kernel
theorem d_Mo_init_228 : decode b_Mo_init 228 = .ok (.aload_n 0, 1) := by decide +kernel
theorem d_Mo_init_229 : decode b_Mo_init 229 = .ok (.sipush 4096, 3) := by decide +kernel
theorem d_Mo_init_232 : decode b_Mo_init 232 = .ok (.newarray .boolean, 2) := by decide +kernel
theorem d_Mo_init_234 : decode b_Mo_init 234 = .ok (.putfield 92, 3) := by decide +kernel
theorem d_Mo_init_237 : decode b_Mo_init 237 = .ok (.aload_n 0, 1) := by decide +kernel
theorem d_Mo_init_238 : decode b_Mo_init 238 = .ok (.invokevirtual 95, 3) := by decide +kernel
theorem d_Mo_init_241 : decode b_Mo_init 241 = .ok (.return_, 1) := by decide +kernel
set_option maxRecDepth 100000 in
set_option maxHeartbeats 4000000 in
theorem S_Mo_init_0 {G : Gc} {M : Mc} {Q : State → Prop} {K : Option Value → Hp → Prop} (hG : gok G) (hM : mok G M r_Mo_init Q K) (v0 : Nat) (h : Hp) (F : kX h + 1 ≤ gB G + capC ∧ kS h + 8 ≤ capS ∧ (∀ h1 : Hp, h1 = wA h 50 8 8 → (kT h1 v0 = 12 ∧ (∀ h2 : Hp, h2 = wR h1 v0 1 (some (kX h)) → (kX h2 + 1 ≤ gB G + capC ∧ kS h2 + 12 ≤ capS ∧ (∀ h3 : Hp, h3 = wA h2 50 12 12 → (kT h3 v0 = 12 ∧ (∀ h4 : Hp, h4 = wR h3 v0 4 (some (kX h2)) → (kX h4 + 1 ≤ gB G + capC ∧ kS h4 + 19 ≤ capS ∧ (∀ h5 : Hp, h5 = wA h4 50 19 19 → (kT h5 v0 = 12 ∧ (∀ h6 : Hp, h6 = wR h5 v0 5 (some (kX h4)) → (kX h6 + 1 ≤ gB G + capC ∧ kS h6 + 228 ≤ capS ∧ (∀ h7 : Hp, h7 = wA h6 50 228 228 → (kT h7 v0 = 12 ∧ (∀ h8 : Hp, h8 = wR h7 v0 6 (some (kX h6)) → (kX h8 + 1 ≤ gB G + capC ∧ kS h8 + 36 ≤ capS ∧ (∀ h9 : Hp, h9 = wA h8 50 36 36 → (kT h9 v0 = 12 ∧ (∀ h10 : Hp, h10 = wR h9 v0 7 (some (kX h8)) → (kX h10 + 1 ≤ gB G + capC ∧ kS h10 + 432 ≤ capS ∧ (∀ h11 : Hp, h11 = wA h10 50 432 432 → (kT h11 v0 = 12 ∧ (∀ h12 : Hp, h12 = wR h11 v0 8 (some (kX h10)) → (kX h12 + 1 ≤ gB G + capC ∧ kS h12 + 8 ≤ capS ∧ (∀ h13 : Hp, h13 = wA h12 50 8 8 → (kT h13 v0 = 12 ∧ (∀ h14 : Hp, h14 = wR h13 v0 10 (some (kX h12)) → (kX h14 + 1 ≤ gB G + capC ∧ kS h14 + 8 ≤ capS ∧ (∀ h15 : Hp, h15 = wA h14 50 8 8 → (kT h15 v0 = 12 ∧ (∀ h16 : Hp, h16 = wR h15 v0 11 (some (kX h14)) → (kX h16 + 1 ≤ gB G + capC ∧ kS h16 + 147456 ≤ capS ∧ (∀ h17 : Hp, h17 = wA h16 50 147456 147456 → (kT h17 v0 = 12 ∧ (∀ h18 : Hp, h18 = wR h17 v0 14 (some (kX h16)) → (kX h18 + 1 ≤ gB G + capC ∧ kS h18 + 4096 ≤ capS ∧ (∀ h19 : Hp, h19 = wA h18 51 4096 4096 → (kT h19 v0 = 12 ∧ (∀ h20 : Hp, h20 = wR h19 v0 15 (some (kX h18)) → (kX h20 + 1 ≤ gB G + capC ∧ kS h20 + 4096 ≤ capS ∧ (∀ h21 : Hp, h21 = wA h20 50 4096 4096 → (kT h21 v0 = 12 ∧ (∀ h22 : Hp, h22 = wR h21 v0 16 (some (kX h20)) → (kX h22 + 1 ≤ gB G + capC ∧ kS h22 + 147456 ≤ capS ∧ (∀ h23 : Hp, h23 = wA h22 50 147456 147456 → (kT h23 v0 = 12 ∧ (∀ h24 : Hp, h24 = wR h23 v0 17 (some (kX h22)) → (kX h24 + 1 ≤ gB G + capC ∧ kS h24 + 147456 ≤ capS ∧ (∀ h25 : Hp, h25 = wA h24 50 147456 147456 → (kT h25 v0 = 12 ∧ (∀ h26 : Hp, h26 = wR h25 v0 18 (some (kX h24)) → (kX h26 + 1 ≤ gB G + capC ∧ kS h26 + 4096 ≤ capS ∧ (∀ h27 : Hp, h27 = wA h26 50 4096 4096 → (kT h27 v0 = 12 ∧ (∀ h28 : Hp, h28 = wR h27 v0 19 (some (kX h26)) → (kX h28 + 1 ≤ gB G + capC ∧ kS h28 + 4096 ≤ capS ∧ (∀ h29 : Hp, h29 = wA h28 50 4096 4096 → (kT h29 v0 = 12 ∧ (∀ h30 : Hp, h30 = wR h29 v0 20 (some (kX h28)) → (kX h30 + 1 ≤ gB G + capC ∧ kS h30 + 4096 ≤ capS ∧ (∀ h31 : Hp, h31 = wA h30 50 4096 4096 → (kT h31 v0 = 12 ∧ (∀ h32 : Hp, h32 = wR h31 v0 21 (some (kX h30)) → (kX h32 + 1 ≤ gB G + capC ∧ kS h32 + 4096 ≤ capS ∧ (∀ h33 : Hp, h33 = wA h32 50 4096 4096 → (kT h33 v0 = 12 ∧ (∀ h34 : Hp, h34 = wR h33 v0 22 (some (kX h32)) → (kX h34 + 1 ≤ gB G + capC ∧ kS h34 + 4096 ≤ capS ∧ (∀ h35 : Hp, h35 = wA h34 50 4096 4096 → (kT h35 v0 = 12 ∧ (∀ h36 : Hp, h36 = wR h35 v0 23 (some (kX h34)) → (kX h36 + 1 ≤ gB G + capC ∧ kS h36 + 49152 ≤ capS ∧ (∀ h37 : Hp, h37 = wA h36 50 49152 49152 → (kT h37 v0 = 12 ∧ (∀ h38 : Hp, h38 = wR h37 v0 24 (some (kX h36)) → (kX h38 + 1 ≤ gB G + capC ∧ kS h38 + 4096 ≤ capS ∧ (∀ h39 : Hp, h39 = wA h38 51 4096 4096 → (kT h39 v0 = 12 ∧ (∀ h40 : Hp, h40 = wR h39 v0 25 (some (kX h38)) → (kX h40 + 1 ≤ gB G + capC ∧ kS h40 + 4096 ≤ capS ∧ (∀ h41 : Hp, h41 = wA h40 50 4096 4096 → (kT h41 v0 = 12 ∧ (∀ h42 : Hp, h42 = wR h41 v0 27 (some (kX h40)) → (kX h42 + 1 ≤ gB G + capC ∧ kS h42 + 4096 ≤ capS ∧ (∀ h43 : Hp, h43 = wA h42 50 4096 4096 → (kT h43 v0 = 12 ∧ (∀ h44 : Hp, h44 = wR h43 v0 28 (some (kX h42)) → (kX h44 + 1 ≤ gB G + capC ∧ kS h44 + 4096 ≤ capS ∧ (∀ h45 : Hp, h45 = wA h44 52 4096 4096 → (kT h45 v0 = 12 ∧ (∀ h46 : Hp, h46 = wR h45 v0 29 (some (kX h44)) → (kX h46 + 1 ≤ gB G + capC ∧ kS h46 + 8192 ≤ capS ∧ (∀ h47 : Hp, h47 = wA h46 50 8192 8192 → (kT h47 v0 = 12 ∧ (∀ h48 : Hp, h48 = wR h47 v0 30 (some (kX h46)) → (kX h48 + 1 ≤ gB G + capC ∧ kS h48 + 4096 ≤ capS ∧ (∀ h49 : Hp, h49 = wA h48 50 4096 4096 → (kT h49 v0 = 12 ∧ (∀ h50 : Hp, h50 = wR h49 v0 31 (some (kX h48)) → (kX h50 + 1 ≤ gB G + capC ∧ kS h50 + 4096 ≤ capS ∧ (∀ h51 : Hp, h51 = wA h50 52 4096 4096 → (kT h51 v0 = 12 ∧ (∀ h52 : Hp, h52 = wR h51 v0 33 (some (kX h50)) → (kX h52 + 1 ≤ gB G + capC ∧ kS h52 + 4096 ≤ capS ∧ (∀ h53 : Hp, h53 = wA h52 51 4096 4096 → (kT h53 v0 = 12 ∧ (∀ h54 : Hp, h54 = wR h53 v0 34 (some (kX h52)) → (kT h54 v0 = 12 ∧ sem G r_Mo_forget [.ref v0] h54 (fun u56 h55 => u56 = none ∧ K none h55)))))))))))))))))))))))))))))))))))))))))))))))))))))))))))))))))))))))))))))))))))))))))))))))))))))))))))))) : X G M Q 0 [(0, .ref v0)] [] h := by
  refine x_aload_n hM d_Mo_init_0 rfl 0 rfl ?_
  refine x_objInit hG hM rfl w_890 w_22 w_objcode d_Mo_init_1 (Nat.le_of_ble_eq_true rfl) (Nat.le_of_ble_eq_true rfl) (Nat.le_of_ble_eq_true rfl) ?_
  refine x_aload_n hM d_Mo_init_4 rfl 0 rfl ?_
  refine x_bipush (v := 8) hM d_Mo_init_5 (by decide) ?_
  obtain ⟨c137, F⟩ := F
  obtain ⟨c138, F⟩ := F
  obtain ⟨h1, eh1⟩ : ∃ z : Hp, z = wA h 50 8 8 := ⟨_, rfl⟩
  replace F := F h1 eh1
  refine x_newI hG hM (N := 8) w_63 d_Mo_init_7 (by decide) rfl c137 c138 ?_
  rw [← eh1]
  clear eh1
  obtain ⟨c136, F⟩ := F
  obtain ⟨h2, eh2⟩ : ∃ z : Hp, z = wR h1 v0 1 (some (kX h)) := ⟨_, rfl⟩
  replace F := F h2 eh2
  refine x_putr hG hM ck_Mo 1 (Nat.le_of_ble_eq_true rfl) (Or.inr ⟨_, rfl⟩) rfl w_898 rfl d_Mo_init_9 (Or.inr ⟨rfl, rfl, rfl⟩) c136 ?_
  rw [← eh2]
  clear eh2
  refine x_aload_n hM d_Mo_init_12 rfl 0 rfl ?_
  refine x_bipush (v := 12) hM d_Mo_init_13 (by decide) ?_
  obtain ⟨c134, F⟩ := F
  obtain ⟨c135, F⟩ := F
  obtain ⟨h3, eh3⟩ : ∃ z : Hp, z = wA h2 50 12 12 := ⟨_, rfl⟩
  replace F := F h3 eh3
  refine x_newI hG hM (N := 12) w_63 d_Mo_init_15 (by decide) rfl c134 c135 ?_
  rw [← eh3]
  clear eh3
  obtain ⟨c133, F⟩ := F
  obtain ⟨h4, eh4⟩ : ∃ z : Hp, z = wR h3 v0 4 (some (kX h2)) := ⟨_, rfl⟩
  replace F := F h4 eh4
  refine x_putr hG hM ck_Mo 4 (Nat.le_of_ble_eq_true rfl) (Or.inr ⟨_, rfl⟩) rfl w_901 rfl d_Mo_init_17 (Or.inr ⟨rfl, rfl, rfl⟩) c133 ?_
  rw [← eh4]
  clear eh4
  refine x_aload_n hM d_Mo_init_20 rfl 0 rfl ?_
  refine x_bipush (v := 19) hM d_Mo_init_21 (by decide) ?_
  obtain ⟨c131, F⟩ := F
  obtain ⟨c132, F⟩ := F
  obtain ⟨h5, eh5⟩ : ∃ z : Hp, z = wA h4 50 19 19 := ⟨_, rfl⟩
  replace F := F h5 eh5
  refine x_newI hG hM (N := 19) w_63 d_Mo_init_23 (by decide) rfl c131 c132 ?_
  rw [← eh5]
  clear eh5
  obtain ⟨c130, F⟩ := F
  obtain ⟨h6, eh6⟩ : ∃ z : Hp, z = wR h5 v0 5 (some (kX h4)) := ⟨_, rfl⟩
  replace F := F h6 eh6
  refine x_putr hG hM ck_Mo 5 (Nat.le_of_ble_eq_true rfl) (Or.inr ⟨_, rfl⟩) rfl w_902 rfl d_Mo_init_25 (Or.inr ⟨rfl, rfl, rfl⟩) c130 ?_
  rw [← eh6]
  clear eh6
  refine x_aload_n hM d_Mo_init_28 rfl 0 rfl ?_
  refine x_sipush (v := 228) hM d_Mo_init_29 (by decide) ?_
  obtain ⟨c128, F⟩ := F
  obtain ⟨c129, F⟩ := F
  obtain ⟨h7, eh7⟩ : ∃ z : Hp, z = wA h6 50 228 228 := ⟨_, rfl⟩
  replace F := F h7 eh7
  refine x_newI hG hM (N := 228) w_63 d_Mo_init_32 (by decide) rfl c128 c129 ?_
  rw [← eh7]
  clear eh7
  obtain ⟨c127, F⟩ := F
  obtain ⟨h8, eh8⟩ : ∃ z : Hp, z = wR h7 v0 6 (some (kX h6)) := ⟨_, rfl⟩
  replace F := F h8 eh8
  refine x_putr hG hM ck_Mo 6 (Nat.le_of_ble_eq_true rfl) (Or.inr ⟨_, rfl⟩) rfl w_903 rfl d_Mo_init_34 (Or.inr ⟨rfl, rfl, rfl⟩) c127 ?_
  rw [← eh8]
  clear eh8
  refine x_aload_n hM d_Mo_init_37 rfl 0 rfl ?_
  refine x_bipush (v := 36) hM d_Mo_init_38 (by decide) ?_
  obtain ⟨c125, F⟩ := F
  obtain ⟨c126, F⟩ := F
  obtain ⟨h9, eh9⟩ : ∃ z : Hp, z = wA h8 50 36 36 := ⟨_, rfl⟩
  replace F := F h9 eh9
  refine x_newI hG hM (N := 36) w_63 d_Mo_init_40 (by decide) rfl c125 c126 ?_
  rw [← eh9]
  clear eh9
  obtain ⟨c124, F⟩ := F
  obtain ⟨h10, eh10⟩ : ∃ z : Hp, z = wR h9 v0 7 (some (kX h8)) := ⟨_, rfl⟩
  replace F := F h10 eh10
  refine x_putr hG hM ck_Mo 7 (Nat.le_of_ble_eq_true rfl) (Or.inr ⟨_, rfl⟩) rfl w_904 rfl d_Mo_init_42 (Or.inr ⟨rfl, rfl, rfl⟩) c124 ?_
  rw [← eh10]
  clear eh10
  refine x_aload_n hM d_Mo_init_45 rfl 0 rfl ?_
  refine x_sipush (v := 432) hM d_Mo_init_46 (by decide) ?_
  obtain ⟨c122, F⟩ := F
  obtain ⟨c123, F⟩ := F
  obtain ⟨h11, eh11⟩ : ∃ z : Hp, z = wA h10 50 432 432 := ⟨_, rfl⟩
  replace F := F h11 eh11
  refine x_newI hG hM (N := 432) w_63 d_Mo_init_49 (by decide) rfl c122 c123 ?_
  rw [← eh11]
  clear eh11
  obtain ⟨c121, F⟩ := F
  obtain ⟨h12, eh12⟩ : ∃ z : Hp, z = wR h11 v0 8 (some (kX h10)) := ⟨_, rfl⟩
  replace F := F h12 eh12
  refine x_putr hG hM ck_Mo 8 (Nat.le_of_ble_eq_true rfl) (Or.inr ⟨_, rfl⟩) rfl w_905 rfl d_Mo_init_51 (Or.inr ⟨rfl, rfl, rfl⟩) c121 ?_
  rw [← eh12]
  clear eh12
  refine x_aload_n hM d_Mo_init_54 rfl 0 rfl ?_
  refine x_bipush (v := 8) hM d_Mo_init_55 (by decide) ?_
  obtain ⟨c119, F⟩ := F
  obtain ⟨c120, F⟩ := F
  obtain ⟨h13, eh13⟩ : ∃ z : Hp, z = wA h12 50 8 8 := ⟨_, rfl⟩
  replace F := F h13 eh13
  refine x_newI hG hM (N := 8) w_63 d_Mo_init_57 (by decide) rfl c119 c120 ?_
  rw [← eh13]
  clear eh13
  obtain ⟨c118, F⟩ := F
  obtain ⟨h14, eh14⟩ : ∃ z : Hp, z = wR h13 v0 10 (some (kX h12)) := ⟨_, rfl⟩
  replace F := F h14 eh14
  refine x_putr hG hM ck_Mo 10 (Nat.le_of_ble_eq_true rfl) (Or.inr ⟨_, rfl⟩) rfl w_907 rfl d_Mo_init_59 (Or.inr ⟨rfl, rfl, rfl⟩) c118 ?_
  rw [← eh14]
  clear eh14
  refine x_aload_n hM d_Mo_init_62 rfl 0 rfl ?_
  refine x_bipush (v := 8) hM d_Mo_init_63 (by decide) ?_
  obtain ⟨c116, F⟩ := F
  obtain ⟨c117, F⟩ := F
  obtain ⟨h15, eh15⟩ : ∃ z : Hp, z = wA h14 50 8 8 := ⟨_, rfl⟩
  replace F := F h15 eh15
  refine x_newI hG hM (N := 8) w_63 d_Mo_init_65 (by decide) rfl c116 c117 ?_
  rw [← eh15]
  clear eh15
  obtain ⟨c115, F⟩ := F
  obtain ⟨h16, eh16⟩ : ∃ z : Hp, z = wR h15 v0 11 (some (kX h14)) := ⟨_, rfl⟩
  replace F := F h16 eh16
  refine x_putr hG hM ck_Mo 11 (Nat.le_of_ble_eq_true rfl) (Or.inr ⟨_, rfl⟩) rfl w_908 rfl d_Mo_init_67 (Or.inr ⟨rfl, rfl, rfl⟩) c115 ?_
  rw [← eh16]
  clear eh16
  refine x_aload_n hM d_Mo_init_70 rfl 0 rfl ?_
  refine x_ldc hG hM rfl w_891 d_Mo_init_71 ?_
  obtain ⟨c113, F⟩ := F
  obtain ⟨c114, F⟩ := F
  obtain ⟨h17, eh17⟩ : ∃ z : Hp, z = wA h16 50 147456 147456 := ⟨_, rfl⟩
  replace F := F h17 eh17
  refine x_newI hG hM (N := 147456) w_63 d_Mo_init_73 (by decide) rfl c113 c114 ?_
  rw [← eh17]
  clear eh17
  obtain ⟨c112, F⟩ := F
  obtain ⟨h18, eh18⟩ : ∃ z : Hp, z = wR h17 v0 14 (some (kX h16)) := ⟨_, rfl⟩
  replace F := F h18 eh18
  refine x_putr hG hM ck_Mo 14 (Nat.le_of_ble_eq_true rfl) (Or.inr ⟨_, rfl⟩) rfl w_911 rfl d_Mo_init_75 (Or.inr ⟨rfl, rfl, rfl⟩) c112 ?_
  rw [← eh18]
  clear eh18
  refine x_aload_n hM d_Mo_init_78 rfl 0 rfl ?_
  refine x_sipush (v := 4096) hM d_Mo_init_79 (by decide) ?_
  obtain ⟨c110, F⟩ := F
  obtain ⟨c111, F⟩ := F
  obtain ⟨h19, eh19⟩ : ∃ z : Hp, z = wA h18 51 4096 4096 := ⟨_, rfl⟩
  replace F := F h19 eh19
  refine x_newZ hG hM (N := 4096) w_226 d_Mo_init_82 (by decide) rfl c110 c111 ?_
  rw [← eh19]
  clear eh19
  obtain ⟨c109, F⟩ := F
  obtain ⟨h20, eh20⟩ : ∃ z : Hp, z = wR h19 v0 15 (some (kX h18)) := ⟨_, rfl⟩
  replace F := F h20 eh20
  refine x_putr hG hM ck_Mo 15 (Nat.le_of_ble_eq_true rfl) (Or.inr ⟨_, rfl⟩) rfl w_912 rfl d_Mo_init_84 (Or.inr ⟨rfl, rfl, rfl⟩) c109 ?_
  rw [← eh20]
  clear eh20
  refine x_aload_n hM d_Mo_init_87 rfl 0 rfl ?_
  refine x_sipush (v := 4096) hM d_Mo_init_88 (by decide) ?_
  obtain ⟨c107, F⟩ := F
  obtain ⟨c108, F⟩ := F
  obtain ⟨h21, eh21⟩ : ∃ z : Hp, z = wA h20 50 4096 4096 := ⟨_, rfl⟩
  replace F := F h21 eh21
  refine x_newI hG hM (N := 4096) w_63 d_Mo_init_91 (by decide) rfl c107 c108 ?_
  rw [← eh21]
  clear eh21
  obtain ⟨c106, F⟩ := F
  obtain ⟨h22, eh22⟩ : ∃ z : Hp, z = wR h21 v0 16 (some (kX h20)) := ⟨_, rfl⟩
  replace F := F h22 eh22
  refine x_putr hG hM ck_Mo 16 (Nat.le_of_ble_eq_true rfl) (Or.inr ⟨_, rfl⟩) rfl w_913 rfl d_Mo_init_93 (Or.inr ⟨rfl, rfl, rfl⟩) c106 ?_
  rw [← eh22]
  clear eh22
  refine x_aload_n hM d_Mo_init_96 rfl 0 rfl ?_
  refine x_ldc hG hM rfl w_891 d_Mo_init_97 ?_
  obtain ⟨c104, F⟩ := F
  obtain ⟨c105, F⟩ := F
  obtain ⟨h23, eh23⟩ : ∃ z : Hp, z = wA h22 50 147456 147456 := ⟨_, rfl⟩
  replace F := F h23 eh23
  refine x_newI hG hM (N := 147456) w_63 d_Mo_init_99 (by decide) rfl c104 c105 ?_
  rw [← eh23]
  clear eh23
  obtain ⟨c103, F⟩ := F
  obtain ⟨h24, eh24⟩ : ∃ z : Hp, z = wR h23 v0 17 (some (kX h22)) := ⟨_, rfl⟩
  replace F := F h24 eh24
  refine x_putr hG hM ck_Mo 17 (Nat.le_of_ble_eq_true rfl) (Or.inr ⟨_, rfl⟩) rfl w_914 rfl d_Mo_init_101 (Or.inr ⟨rfl, rfl, rfl⟩) c103 ?_
  rw [← eh24]
  clear eh24
  refine x_aload_n hM d_Mo_init_104 rfl 0 rfl ?_
  refine x_ldc hG hM rfl w_891 d_Mo_init_105 ?_
  obtain ⟨c101, F⟩ := F
  obtain ⟨c102, F⟩ := F
  obtain ⟨h25, eh25⟩ : ∃ z : Hp, z = wA h24 50 147456 147456 := ⟨_, rfl⟩
  replace F := F h25 eh25
  refine x_newI hG hM (N := 147456) w_63 d_Mo_init_107 (by decide) rfl c101 c102 ?_
  rw [← eh25]
  clear eh25
  obtain ⟨c100, F⟩ := F
  obtain ⟨h26, eh26⟩ : ∃ z : Hp, z = wR h25 v0 18 (some (kX h24)) := ⟨_, rfl⟩
  replace F := F h26 eh26
  refine x_putr hG hM ck_Mo 18 (Nat.le_of_ble_eq_true rfl) (Or.inr ⟨_, rfl⟩) rfl w_915 rfl d_Mo_init_109 (Or.inr ⟨rfl, rfl, rfl⟩) c100 ?_
  rw [← eh26]
  clear eh26
  refine x_aload_n hM d_Mo_init_112 rfl 0 rfl ?_
  refine x_sipush (v := 4096) hM d_Mo_init_113 (by decide) ?_
  obtain ⟨c98, F⟩ := F
  obtain ⟨c99, F⟩ := F
  obtain ⟨h27, eh27⟩ : ∃ z : Hp, z = wA h26 50 4096 4096 := ⟨_, rfl⟩
  replace F := F h27 eh27
  refine x_newI hG hM (N := 4096) w_63 d_Mo_init_116 (by decide) rfl c98 c99 ?_
  rw [← eh27]
  clear eh27
  obtain ⟨c97, F⟩ := F
  obtain ⟨h28, eh28⟩ : ∃ z : Hp, z = wR h27 v0 19 (some (kX h26)) := ⟨_, rfl⟩
  replace F := F h28 eh28
  refine x_putr hG hM ck_Mo 19 (Nat.le_of_ble_eq_true rfl) (Or.inr ⟨_, rfl⟩) rfl w_916 rfl d_Mo_init_118 (Or.inr ⟨rfl, rfl, rfl⟩) c97 ?_
  rw [← eh28]
  clear eh28
  refine x_aload_n hM d_Mo_init_121 rfl 0 rfl ?_
  refine x_sipush (v := 4096) hM d_Mo_init_122 (by decide) ?_
  obtain ⟨c95, F⟩ := F
  obtain ⟨c96, F⟩ := F
  obtain ⟨h29, eh29⟩ : ∃ z : Hp, z = wA h28 50 4096 4096 := ⟨_, rfl⟩
  replace F := F h29 eh29
  refine x_newI hG hM (N := 4096) w_63 d_Mo_init_125 (by decide) rfl c95 c96 ?_
  rw [← eh29]
  clear eh29
  obtain ⟨c94, F⟩ := F
  obtain ⟨h30, eh30⟩ : ∃ z : Hp, z = wR h29 v0 20 (some (kX h28)) := ⟨_, rfl⟩
  replace F := F h30 eh30
  refine x_putr hG hM ck_Mo 20 (Nat.le_of_ble_eq_true rfl) (Or.inr ⟨_, rfl⟩) rfl w_917 rfl d_Mo_init_127 (Or.inr ⟨rfl, rfl, rfl⟩) c94 ?_
  rw [← eh30]
  clear eh30
  refine x_aload_n hM d_Mo_init_130 rfl 0 rfl ?_
  refine x_sipush (v := 4096) hM d_Mo_init_131 (by decide) ?_
  obtain ⟨c92, F⟩ := F
  obtain ⟨c93, F⟩ := F
  obtain ⟨h31, eh31⟩ : ∃ z : Hp, z = wA h30 50 4096 4096 := ⟨_, rfl⟩
  replace F := F h31 eh31
  refine x_newI hG hM (N := 4096) w_63 d_Mo_init_134 (by decide) rfl c92 c93 ?_
  rw [← eh31]
  clear eh31
  obtain ⟨c91, F⟩ := F
  obtain ⟨h32, eh32⟩ : ∃ z : Hp, z = wR h31 v0 21 (some (kX h30)) := ⟨_, rfl⟩
  replace F := F h32 eh32
  refine x_putr hG hM ck_Mo 21 (Nat.le_of_ble_eq_true rfl) (Or.inr ⟨_, rfl⟩) rfl w_918 rfl d_Mo_init_136 (Or.inr ⟨rfl, rfl, rfl⟩) c91 ?_
  rw [← eh32]
  clear eh32
  refine x_aload_n hM d_Mo_init_139 rfl 0 rfl ?_
  refine x_sipush (v := 4096) hM d_Mo_init_140 (by decide) ?_
  obtain ⟨c89, F⟩ := F
  obtain ⟨c90, F⟩ := F
  obtain ⟨h33, eh33⟩ : ∃ z : Hp, z = wA h32 50 4096 4096 := ⟨_, rfl⟩
  replace F := F h33 eh33
  refine x_newI hG hM (N := 4096) w_63 d_Mo_init_143 (by decide) rfl c89 c90 ?_
  rw [← eh33]
  clear eh33
  obtain ⟨c88, F⟩ := F
  obtain ⟨h34, eh34⟩ : ∃ z : Hp, z = wR h33 v0 22 (some (kX h32)) := ⟨_, rfl⟩
  replace F := F h34 eh34
  refine x_putr hG hM ck_Mo 22 (Nat.le_of_ble_eq_true rfl) (Or.inr ⟨_, rfl⟩) rfl w_919 rfl d_Mo_init_145 (Or.inr ⟨rfl, rfl, rfl⟩) c88 ?_
  rw [← eh34]
  clear eh34
  refine x_aload_n hM d_Mo_init_148 rfl 0 rfl ?_
  refine x_sipush (v := 4096) hM d_Mo_init_149 (by decide) ?_
  obtain ⟨c86, F⟩ := F
  obtain ⟨c87, F⟩ := F
  obtain ⟨h35, eh35⟩ : ∃ z : Hp, z = wA h34 50 4096 4096 := ⟨_, rfl⟩
  replace F := F h35 eh35
  refine x_newI hG hM (N := 4096) w_63 d_Mo_init_152 (by decide) rfl c86 c87 ?_
  rw [← eh35]
  clear eh35
  obtain ⟨c85, F⟩ := F
  obtain ⟨h36, eh36⟩ : ∃ z : Hp, z = wR h35 v0 23 (some (kX h34)) := ⟨_, rfl⟩
  replace F := F h36 eh36
  refine x_putr hG hM ck_Mo 23 (Nat.le_of_ble_eq_true rfl) (Or.inr ⟨_, rfl⟩) rfl w_920 rfl d_Mo_init_154 (Or.inr ⟨rfl, rfl, rfl⟩) c85 ?_
  rw [← eh36]
  clear eh36
  refine x_aload_n hM d_Mo_init_157 rfl 0 rfl ?_
  refine x_ldc hG hM rfl w_892 d_Mo_init_158 ?_
  obtain ⟨c83, F⟩ := F
  obtain ⟨c84, F⟩ := F
  obtain ⟨h37, eh37⟩ : ∃ z : Hp, z = wA h36 50 49152 49152 := ⟨_, rfl⟩
  replace F := F h37 eh37
  refine x_newI hG hM (N := 49152) w_63 d_Mo_init_160 (by decide) rfl c83 c84 ?_
  rw [← eh37]
  clear eh37
  obtain ⟨c82, F⟩ := F
  obtain ⟨h38, eh38⟩ : ∃ z : Hp, z = wR h37 v0 24 (some (kX h36)) := ⟨_, rfl⟩
  replace F := F h38 eh38
  refine x_putr hG hM ck_Mo 24 (Nat.le_of_ble_eq_true rfl) (Or.inr ⟨_, rfl⟩) rfl w_921 rfl d_Mo_init_162 (Or.inr ⟨rfl, rfl, rfl⟩) c82 ?_
  rw [← eh38]
  clear eh38
  refine x_aload_n hM d_Mo_init_165 rfl 0 rfl ?_
  refine x_sipush (v := 4096) hM d_Mo_init_166 (by decide) ?_
  obtain ⟨c80, F⟩ := F
  obtain ⟨c81, F⟩ := F
  obtain ⟨h39, eh39⟩ : ∃ z : Hp, z = wA h38 51 4096 4096 := ⟨_, rfl⟩
  replace F := F h39 eh39
  refine x_newZ hG hM (N := 4096) w_226 d_Mo_init_169 (by decide) rfl c80 c81 ?_
  rw [← eh39]
  clear eh39
  obtain ⟨c79, F⟩ := F
  obtain ⟨h40, eh40⟩ : ∃ z : Hp, z = wR h39 v0 25 (some (kX h38)) := ⟨_, rfl⟩
  replace F := F h40 eh40
  refine x_putr hG hM ck_Mo 25 (Nat.le_of_ble_eq_true rfl) (Or.inr ⟨_, rfl⟩) rfl w_922 rfl d_Mo_init_171 (Or.inr ⟨rfl, rfl, rfl⟩) c79 ?_
  rw [← eh40]
  clear eh40
  refine x_aload_n hM d_Mo_init_174 rfl 0 rfl ?_
  refine x_sipush (v := 4096) hM d_Mo_init_175 (by decide) ?_
  obtain ⟨c77, F⟩ := F
  obtain ⟨c78, F⟩ := F
  obtain ⟨h41, eh41⟩ : ∃ z : Hp, z = wA h40 50 4096 4096 := ⟨_, rfl⟩
  replace F := F h41 eh41
  refine x_newI hG hM (N := 4096) w_63 d_Mo_init_178 (by decide) rfl c77 c78 ?_
  rw [← eh41]
  clear eh41
  obtain ⟨c76, F⟩ := F
  obtain ⟨h42, eh42⟩ : ∃ z : Hp, z = wR h41 v0 27 (some (kX h40)) := ⟨_, rfl⟩
  replace F := F h42 eh42
  refine x_putr hG hM ck_Mo 27 (Nat.le_of_ble_eq_true rfl) (Or.inr ⟨_, rfl⟩) rfl w_924 rfl d_Mo_init_180 (Or.inr ⟨rfl, rfl, rfl⟩) c76 ?_
  rw [← eh42]
  clear eh42
  refine x_aload_n hM d_Mo_init_183 rfl 0 rfl ?_
  refine x_sipush (v := 4096) hM d_Mo_init_184 (by decide) ?_
  obtain ⟨c74, F⟩ := F
  obtain ⟨c75, F⟩ := F
  obtain ⟨h43, eh43⟩ : ∃ z : Hp, z = wA h42 50 4096 4096 := ⟨_, rfl⟩
  replace F := F h43 eh43
  refine x_newI hG hM (N := 4096) w_63 d_Mo_init_187 (by decide) rfl c74 c75 ?_
  rw [← eh43]
  clear eh43
  obtain ⟨c73, F⟩ := F
  obtain ⟨h44, eh44⟩ : ∃ z : Hp, z = wR h43 v0 28 (some (kX h42)) := ⟨_, rfl⟩
  replace F := F h44 eh44
  refine x_putr hG hM ck_Mo 28 (Nat.le_of_ble_eq_true rfl) (Or.inr ⟨_, rfl⟩) rfl w_925 rfl d_Mo_init_189 (Or.inr ⟨rfl, rfl, rfl⟩) c73 ?_
  rw [← eh44]
  clear eh44
  refine x_aload_n hM d_Mo_init_192 rfl 0 rfl ?_
  refine x_sipush (v := 4096) hM d_Mo_init_193 (by decide) ?_
  obtain ⟨c71, F⟩ := F
  obtain ⟨c72, F⟩ := F
  obtain ⟨h45, eh45⟩ : ∃ z : Hp, z = wA h44 52 4096 4096 := ⟨_, rfl⟩
  replace F := F h45 eh45
  refine x_newL hG hM (N := 4096) w_276 d_Mo_init_196 (by decide) rfl c71 c72 ?_
  rw [← eh45]
  clear eh45
  obtain ⟨c70, F⟩ := F
  obtain ⟨h46, eh46⟩ : ∃ z : Hp, z = wR h45 v0 29 (some (kX h44)) := ⟨_, rfl⟩
  replace F := F h46 eh46
  refine x_putr hG hM ck_Mo 29 (Nat.le_of_ble_eq_true rfl) (Or.inr ⟨_, rfl⟩) rfl w_926 rfl d_Mo_init_198 (Or.inr ⟨rfl, rfl, rfl⟩) c70 ?_
  rw [← eh46]
  clear eh46
  refine x_aload_n hM d_Mo_init_201 rfl 0 rfl ?_
  refine x_sipush (v := 8192) hM d_Mo_init_202 (by decide) ?_
  obtain ⟨c68, F⟩ := F
  obtain ⟨c69, F⟩ := F
  obtain ⟨h47, eh47⟩ : ∃ z : Hp, z = wA h46 50 8192 8192 := ⟨_, rfl⟩
  replace F := F h47 eh47
  refine x_newI hG hM (N := 8192) w_63 d_Mo_init_205 (by decide) rfl c68 c69 ?_
  rw [← eh47]
  clear eh47
  obtain ⟨c67, F⟩ := F
  obtain ⟨h48, eh48⟩ : ∃ z : Hp, z = wR h47 v0 30 (some (kX h46)) := ⟨_, rfl⟩
  replace F := F h48 eh48
  refine x_putr hG hM ck_Mo 30 (Nat.le_of_ble_eq_true rfl) (Or.inr ⟨_, rfl⟩) rfl w_927 rfl d_Mo_init_207 (Or.inr ⟨rfl, rfl, rfl⟩) c67 ?_
  rw [← eh48]
  clear eh48
  refine x_aload_n hM d_Mo_init_210 rfl 0 rfl ?_
  refine x_sipush (v := 4096) hM d_Mo_init_211 (by decide) ?_
  obtain ⟨c65, F⟩ := F
  obtain ⟨c66, F⟩ := F
  obtain ⟨h49, eh49⟩ : ∃ z : Hp, z = wA h48 50 4096 4096 := ⟨_, rfl⟩
  replace F := F h49 eh49
  refine x_newI hG hM (N := 4096) w_63 d_Mo_init_214 (by decide) rfl c65 c66 ?_
  rw [← eh49]
  clear eh49
  obtain ⟨c64, F⟩ := F
  obtain ⟨h50, eh50⟩ : ∃ z : Hp, z = wR h49 v0 31 (some (kX h48)) := ⟨_, rfl⟩
  replace F := F h50 eh50
  refine x_putr hG hM ck_Mo 31 (Nat.le_of_ble_eq_true rfl) (Or.inr ⟨_, rfl⟩) rfl w_928 rfl d_Mo_init_216 (Or.inr ⟨rfl, rfl, rfl⟩) c64 ?_
  rw [← eh50]
  clear eh50
  refine x_aload_n hM d_Mo_init_219 rfl 0 rfl ?_
  refine x_sipush (v := 4096) hM d_Mo_init_220 (by decide) ?_
  obtain ⟨c62, F⟩ := F
  obtain ⟨c63, F⟩ := F
  obtain ⟨h51, eh51⟩ : ∃ z : Hp, z = wA h50 52 4096 4096 := ⟨_, rfl⟩
  replace F := F h51 eh51
  refine x_newL hG hM (N := 4096) w_276 d_Mo_init_223 (by decide) rfl c62 c63 ?_
  rw [← eh51]
  clear eh51
  obtain ⟨c61, F⟩ := F
  obtain ⟨h52, eh52⟩ : ∃ z : Hp, z = wR h51 v0 33 (some (kX h50)) := ⟨_, rfl⟩
  replace F := F h52 eh52
  refine x_putr hG hM ck_Mo 33 (Nat.le_of_ble_eq_true rfl) (Or.inr ⟨_, rfl⟩) rfl w_930 rfl d_Mo_init_225 (Or.inr ⟨rfl, rfl, rfl⟩) c61 ?_
  rw [← eh52]
  clear eh52
  refine x_aload_n hM d_Mo_init_228 rfl 0 rfl ?_
  refine x_sipush (v := 4096) hM d_Mo_init_229 (by decide) ?_
  obtain ⟨c59, F⟩ := F
  obtain ⟨c60, F⟩ := F
  obtain ⟨h53, eh53⟩ : ∃ z : Hp, z = wA h52 51 4096 4096 := ⟨_, rfl⟩
  replace F := F h53 eh53
  refine x_newZ hG hM (N := 4096) w_226 d_Mo_init_232 (by decide) rfl c59 c60 ?_
  rw [← eh53]
  clear eh53
  obtain ⟨c58, F⟩ := F
  obtain ⟨h54, eh54⟩ : ∃ z : Hp, z = wR h53 v0 34 (some (kX h52)) := ⟨_, rfl⟩
  replace F := F h54 eh54
  refine x_putr hG hM ck_Mo 34 (Nat.le_of_ble_eq_true rfl) (Or.inr ⟨_, rfl⟩) rfl w_931 rfl d_Mo_init_234 (Or.inr ⟨rfl, rfl, rfl⟩) c58 ?_
  rw [← eh54]
  clear eh54
  refine x_aload_n hM d_Mo_init_237 rfl 0 rfl ?_
  obtain ⟨c57, F⟩ := F
  refine x_callV hG hM (r' := r_Mo_forget) (ci := 11) [] rfl rfl (Nat.le_of_ble_eq_true rfl) yk_Mo_forget ⟨Nat.le_of_ble_eq_true rfl, Nat.le_of_ble_eq_true rfl⟩ w_893 w_895 ws_Mo_forget rfl rfl (Nat.le_of_ble_eq_true rfl) d_Mo_init_238 c57 (sem_mono F ?_)
  intro u56 h55 F
  obtain ⟨rfl, F⟩ := F
  exact x_return hM d_Mo_init_241 rfl F
theorem d_Mo_forget_0 : decode b_Mo_forget 0 = .ok (.aload_n 0, 1) := by decide +kernel
theorem d_Mo_forget_1 : decode b_Mo_forget 1 = .ok (.iconst 0, 1) := by decide +kernel
theorem d_Mo_forget_2 : decode b_Mo_forget 2 = .ok (.putfield 98, 3) := by decide +kernel
theorem d_Mo_forget_5 : decode b_Mo_forget 5 = .ok (.aload_n 0, 1) := by decide +kernel
theorem d_Mo_forget_6 : decode b_Mo_forget 6 = .ok (.iconst 0, 1) := by decide +kernel
theorem d_Mo_forget_7 : decode b_Mo_forget 7 = .ok (.putfield 102, 3) := by decide +kernel
theorem d_Mo_forget_10 : decode b_Mo_forget 10 = .ok (.return_, 1) := by decide +kernel
set_option maxRecDepth 100000 in
set_option maxHeartbeats 4000000 in
theorem S_Mo_forget_0 {G : Gc} {M : Mc} {Q : State → Prop} {K : Option Value → Hp → Prop} (hG : gok G) (hM : mok G M r_Mo_forget Q K) (v0 : Nat) (h : Hp) (F : kT h v0 = 12 ∧ (∀ h1 : Hp, h1 = wI h v0 12 0 → (kT h1 v0 = 12 ∧ (∀ h2 : Hp, h2 = wI h1 v0 26 0 → K none h2)))) : X G M Q 0 [(0, .ref v0)] [] h := by
  refine x_aload_n hM d_Mo_forget_0 rfl 0 rfl ?_
  refine x_iconst (v := 0) hM d_Mo_forget_1 (by decide) ?_
  obtain ⟨c4, F⟩ := F
  obtain ⟨h1, eh1⟩ : ∃ z : Hp, z = wI h v0 12 0 := ⟨_, rfl⟩
  replace F := F h1 eh1
  refine x_putz hG hM ck_Mo 12 (Nat.le_of_ble_eq_true rfl) rfl rfl w_909 rfl d_Mo_forget_2 (Or.inl rfl) c4 (Or.inl rfl) ?_
  rw [← eh1]
  clear eh1
  refine x_aload_n hM d_Mo_forget_5 rfl 0 rfl ?_
  refine x_iconst (v := 0) hM d_Mo_forget_6 (by decide) ?_
  obtain ⟨c3, F⟩ := F
  obtain ⟨h2, eh2⟩ : ∃ z : Hp, z = wI h1 v0 26 0 := ⟨_, rfl⟩
  replace F := F h2 eh2
  refine x_putz hG hM ck_Mo 26 (Nat.le_of_ble_eq_true rfl) rfl rfl w_923 rfl d_Mo_forget_7 (Or.inl rfl) c3 (Or.inl rfl) ?_
  rw [← eh2]
  clear eh2
  exact x_return hM d_Mo_forget_10 rfl F
theorem d_Mo_clear_0 : decode b_Mo_clear 0 = .ok (.aload_n 0, 1) := by decide +kernel
theorem d_Mo_clear_1 : decode b_Mo_clear 1 = .ok (.getfield 105, 3) := by decide +kernel
theorem d_Mo_clear_4 : decode b_Mo_clear 4 = .ok (.istore_n 1, 1) := by decide +kernel
theorem d_Mo_clear_5 : decode b_Mo_clear 5 = .ok (.aload_n 0, 1) := by decide +kernel
theorem d_Mo_clear_6 : decode b_Mo_clear 6 = .ok (.iconst 0, 1) := by decide +kernel
theorem d_Mo_clear_7 : decode b_Mo_clear 7 = .ok (.putfield 105, 3) := by decide +kernel
theorem d_Mo_clear_10 : decode b_Mo_clear 10 = .ok (.aload_n 0, 1) := by decide +kernel
theorem d_Mo_clear_11 : decode b_Mo_clear 11 = .ok (.iconst 0, 1) := by decide +kernel
theorem d_Mo_clear_12 : decode b_Mo_clear 12 = .ok (.putfield 109, 3) := by decide +kernel
theorem d_Mo_clear_15 : decode b_Mo_clear 15 = .ok (.aload_n 0, 1) := by decide +kernel
theorem d_Mo_clear_16 : decode b_Mo_clear 16 = .ok (.iconst 0, 1) := by decide +kernel
theorem d_Mo_clear_17 : decode b_Mo_clear 17 = .ok (.putfield 112, 3) := by decide +kernel
theorem d_Mo_clear_20 : decode b_Mo_clear 20 = .ok (.aload_n 0, 1) := by decide +kernel
theorem d_Mo_clear_21 : decode b_Mo_clear 21 = .ok (.iconst 0, 1) := by decide +kernel
theorem d_Mo_clear_22 : decode b_Mo_clear 22 = .ok (.putfield 115, 3) := by decide +kernel
theorem d_Mo_clear_25 : decode b_Mo_clear 25 = .ok (.aload_n 0, 1) := by decide +kernel
theorem d_Mo_clear_26 : decode b_Mo_clear 26 = .ok (.getfield 16, 3) := by decide +kernel
theorem d_Mo_clear_29 : decode b_Mo_clear 29 = .ok (.bipush 12, 2) := by decide +kernel
theorem d_Mo_clear_31 : decode b_Mo_clear 31 = .ok (.iconst 0, 1) := by decide +kernel
theorem d_Mo_clear_32 : decode b_Mo_clear 32 = .ok (.iastore, 1) := by decide +kernel
theorem d_Mo_clear_33 : decode b_Mo_clear 33 = .ok (.aload_n 0, 1) := by decide +kernel
theorem d_Mo_clear_34 : decode b_Mo_clear 34 = .ok (.invokevirtual 95, 3) := by decide +kernel
theorem d_Mo_clear_37 : decode b_Mo_clear 37 = .ok (.iload_n 1, 1) := by decide +kernel
theorem d_Mo_clear_38 : decode b_Mo_clear 38 = .ok (.ireturn, 1) := by decide +kernel
set_option maxRecDepth 100000 in
set_option maxHeartbeats 4000000 in
theorem S_Mo_clear_0 {G : Gc} {M : Mc} {Q : State → Prop} {K : Option Value → Hp → Prop} (hG : gok G) (hM : mok G M r_Mo_clear Q K) (v0 : Nat) (h : Hp) (F : kT h v0 = 12 ∧ (kT h v0 = 12 ∧ (∀ h1 : Hp, h1 = wI h v0 0 0 → (kT h1 v0 = 12 ∧ (∀ h2 : Hp, h2 = wI h1 v0 2 0 → (kT h2 v0 = 12 ∧ (∀ h3 : Hp, h3 = wI h2 v0 3 0 → (kT h3 v0 = 12 ∧ (∀ h4 : Hp, h4 = wI h3 v0 9 0 → (kT h4 v0 = 12 ∧ kR h4 v0 5 = some (rf h4 v0 5) ∧ (kT h4 (rf h4 v0 5) = 50 ∧ vp_in 12 (kN h4 (rf h4 v0 5)) ∧ (∀ h5 : Hp, h5 = wI h4 (rf h4 v0 5) (Int32.toNatClampNeg 12) 0 → (kT h5 v0 = 12 ∧ sem G r_Mo_forget [.ref v0] h5 (fun u7 h6 => u7 = none ∧ K (some (.int (kI h v0 0))) h6)))))))))))))) : X G M Q 0 [(0, .ref v0)] [] h := by
  refine x_aload_n hM d_Mo_clear_0 rfl 0 rfl ?_
  obtain ⟨c17, F⟩ := F
  refine x_geti hG hM ck_Mo 0 (Nat.le_of_ble_eq_true rfl) rfl rfl w_897 rfl d_Mo_clear_1 c17 ?_
  refine x_istore_n (lv2 := [(1, .int (kI h v0 0)), (0, .ref v0)]) hM d_Mo_clear_4 rfl (Nat.le_of_ble_eq_true rfl) rfl ?_
  refine x_aload_n hM d_Mo_clear_5 rfl 1 rfl ?_
  refine x_iconst (v := 0) hM d_Mo_clear_6 (by decide) ?_
  obtain ⟨c16, F⟩ := F
  obtain ⟨h1, eh1⟩ : ∃ z : Hp, z = wI h v0 0 0 := ⟨_, rfl⟩
  replace F := F h1 eh1
  refine x_puti hG hM ck_Mo 0 (Nat.le_of_ble_eq_true rfl) rfl rfl w_897 rfl d_Mo_clear_7 (Or.inl rfl) c16 ?_
  rw [← eh1]
  clear eh1
  refine x_aload_n hM d_Mo_clear_10 rfl 1 rfl ?_
  refine x_iconst (v := 0) hM d_Mo_clear_11 (by decide) ?_
  obtain ⟨c15, F⟩ := F
  obtain ⟨h2, eh2⟩ : ∃ z : Hp, z = wI h1 v0 2 0 := ⟨_, rfl⟩
  replace F := F h2 eh2
  refine x_puti hG hM ck_Mo 2 (Nat.le_of_ble_eq_true rfl) rfl rfl w_899 rfl d_Mo_clear_12 (Or.inl rfl) c15 ?_
  rw [← eh2]
  clear eh2
  refine x_aload_n hM d_Mo_clear_15 rfl 1 rfl ?_
  refine x_iconst (v := 0) hM d_Mo_clear_16 (by decide) ?_
  obtain ⟨c14, F⟩ := F
  obtain ⟨h3, eh3⟩ : ∃ z : Hp, z = wI h2 v0 3 0 := ⟨_, rfl⟩
  replace F := F h3 eh3
  refine x_puti hG hM ck_Mo 3 (Nat.le_of_ble_eq_true rfl) rfl rfl w_900 rfl d_Mo_clear_17 (Or.inl rfl) c14 ?_
  rw [← eh3]
  clear eh3
  refine x_aload_n hM d_Mo_clear_20 rfl 1 rfl ?_
  refine x_iconst (v := 0) hM d_Mo_clear_21 (by decide) ?_
  obtain ⟨c13, F⟩ := F
  obtain ⟨h4, eh4⟩ : ∃ z : Hp, z = wI h3 v0 9 0 := ⟨_, rfl⟩
  replace F := F h4 eh4
  refine x_puti hG hM ck_Mo 9 (Nat.le_of_ble_eq_true rfl) rfl rfl w_906 rfl d_Mo_clear_22 (Or.inl rfl) c13 ?_
  rw [← eh4]
  clear eh4
  refine x_aload_n hM d_Mo_clear_25 rfl 1 rfl ?_
  obtain ⟨c11, F⟩ := F
  obtain ⟨c12, F⟩ := F
  refine x_getr hG hM ck_Mo 5 (Nat.le_of_ble_eq_true rfl) rfl rfl w_902 rfl d_Mo_clear_26 c11 c12 ?_
  refine x_bipush (v := 12) hM d_Mo_clear_29 (by decide) ?_
  refine x_iconst (v := 0) hM d_Mo_clear_31 (by decide) ?_
  obtain ⟨c9, F⟩ := F
  obtain ⟨c10, F⟩ := F
  obtain ⟨h5, eh5⟩ : ∃ z : Hp, z = wI h4 (rf h4 v0 5) (Int32.toNatClampNeg 12) 0 := ⟨_, rfl⟩
  replace F := F h5 eh5
  refine x_iastore hG hM d_Mo_clear_32 c9 c10 ?_
  rw [← eh5]
  clear eh5
  refine x_aload_n hM d_Mo_clear_33 rfl 1 rfl ?_
  obtain ⟨c8, F⟩ := F
  refine x_callV hG hM (r' := r_Mo_forget) (ci := 11) [] rfl rfl (Nat.le_of_ble_eq_true rfl) yk_Mo_forget ⟨Nat.le_of_ble_eq_true rfl, Nat.le_of_ble_eq_true rfl⟩ w_893 w_895 ws_Mo_forget rfl rfl (Nat.le_of_ble_eq_true rfl) d_Mo_clear_34 c8 (sem_mono F ?_)
  intro u7 h6 F
  obtain ⟨rfl, F⟩ := F
  refine x_iload_n hM d_Mo_clear_37 rfl 0 rfl ?_
  exact x_ireturn hM d_Mo_clear_38 rfl F
theorem d_Mo_thing_0 : decode b_Mo_thing 0 = .ok (.iload_n 1, 1) := by decide +kernel
theorem d_Mo_thing_1 : decode b_Mo_thing 1 = .ok (.iconst 2, 1) := by decide +kernel
theorem d_Mo_thing_2 : decode b_Mo_thing 2 = .ok (.iconst 4, 1) := by decide +kernel
theorem d_Mo_thing_3 : decode b_Mo_thing 3 = .ok (.invokestatic 118, 3) := by decide +kernel
theorem d_Mo_thing_6 : decode b_Mo_thing 6 = .ok (.ifCond .eq 27, 3) := by decide +kernel
theorem d_Mo_thing_9 : decode b_Mo_thing 9 = .ok (.aload_n 0, 1) := by decide +kernel
theorem d_Mo_thing_10 : decode b_Mo_thing 10 = .ok (.getfield 112, 3) := by decide +kernel
theorem d_Mo_thing_13 : decode b_Mo_thing 13 = .ok (.ifCond .gt 20, 3) := by decide +kernel
theorem d_Mo_thing_16 : decode b_Mo_thing 16 = .ok (.aload_n 0, 1) := by decide +kernel
theorem d_Mo_thing_17 : decode b_Mo_thing 17 = .ok (.getfield 115, 3) := by decide +kernel
theorem d_Mo_thing_20 : decode b_Mo_thing 20 = .ok (.ifCond .gt 13, 3) := by decide +kernel
theorem d_Mo_thing_23 : decode b_Mo_thing 23 = .ok (.aload_n 0, 1) := by decide +kernel
theorem d_Mo_thing_24 : decode b_Mo_thing 24 = .ok (.getfield 16, 3) := by decide +kernel
theorem d_Mo_thing_27 : decode b_Mo_thing 27 = .ok (.bipush 12, 2) := by decide +kernel
theorem d_Mo_thing_29 : decode b_Mo_thing 29 = .ok (.iaload, 1) := by decide +kernel
theorem d_Mo_thing_30 : decode b_Mo_thing 30 = .ok (.ifCond .le 6, 3) := by decide +kernel
theorem d_Mo_thing_33 : decode b_Mo_thing 33 = .ok (.bipush (-2), 2) := by decide +kernel
theorem d_Mo_thing_35 : decode b_Mo_thing 35 = .ok (.ireturn, 1) := by decide +kernel
theorem d_Mo_thing_36 : decode b_Mo_thing 36 = .ok (.aload_n 0, 1) := by decide +kernel
theorem d_Mo_thing_37 : decode b_Mo_thing 37 = .ok (.getfield 105, 3) := by decide +kernel
theorem d_Mo_thing_40 : decode b_Mo_thing 40 = .ok (.bipush 8, 2) := by decide +kernel
theorem d_Mo_thing_42 : decode b_Mo_thing 42 = .ok (.if_icmp .eq 15, 3) := by decide +kernel
theorem d_Mo_thing_45 : decode b_Mo_thing 45 = .ok (.aload_n 0, 1) := by decide +kernel
theorem d_Mo_thing_46 : decode b_Mo_thing 46 = .ok (.invokevirtual 122, 3) := by decide +kernel
theorem d_Mo_thing_49 : decode b_Mo_thing 49 = .ok (.iload_n 1, 1) := by decide +kernel
theorem d_Mo_thing_50 : decode b_Mo_thing 50 = .ok (.imul, 1) := by decide +kernel
theorem d_Mo_thing_51 : decode b_Mo_thing 51 = .ok (.sipush 4096, 3) := by decide +kernel
theorem d_Mo_thing_54 : decode b_Mo_thing 54 = .ok (.if_icmp .le 6, 3) := by decide +kernel
theorem d_Mo_thing_57 : decode b_Mo_thing 57 = .ok (.bipush (-3), 2) := by decide +kernel
theorem d_Mo_thing_59 : decode b_Mo_thing 59 = .ok (.ireturn, 1) := by decide +kernel
theorem d_Mo_thing_60 : decode b_Mo_thing 60 = .ok (.aload_n 0, 1) := by decide +kernel
theorem d_Mo_thing_61 : decode b_Mo_thing 61 = .ok (.getfield 7, 3) := by decide +kernel
theorem d_Mo_thing_64 : decode b_Mo_thing 64 = .ok (.aload_n 0, 1) := by decide +kernel
theorem d_Mo_thing_65 : decode b_Mo_thing 65 = .ok (.getfield 105, 3) := by decide +kernel
theorem d_Mo_thing_68 : decode b_Mo_thing 68 = .ok (.iload_n 1, 1) := by decide +kernel
theorem d_Mo_thing_69 : decode b_Mo_thing 69 = .ok (.iastore, 1) := by decide +kernel
theorem d_Mo_thing_70 : decode b_Mo_thing 70 = .ok (.aload_n 0, 1) := by decide +kernel
theorem d_Mo_thing_71 : decode b_Mo_thing 71 = .ok (.dup, 1) := by decide +kernel
theorem d_Mo_thing_72 : decode b_Mo_thing 72 = .ok (.getfield 105, 3) := by decide +kernel
theorem d_Mo_thing_75 : decode b_Mo_thing 75 = .ok (.iconst 1, 1) := by decide +kernel
theorem d_Mo_thing_76 : decode b_Mo_thing 76 = .ok (.iadd, 1) := by decide +kernel
theorem d_Mo_thing_77 : decode b_Mo_thing 77 = .ok (.putfield 105, 3) := by decide +kernel
theorem d_Mo_thing_80 : decode b_Mo_thing 80 = .ok (.aload_n 0, 1) := by decide +kernel
theorem d_Mo_thing_81 : decode b_Mo_thing 81 = .ok (.invokevirtual 95, 3) := by decide +kernel
theorem d_Mo_thing_84 : decode b_Mo_thing 84 = .ok (.aload_n 0, 1) := by decide +kernel
theorem d_Mo_thing_85 : decode b_Mo_thing 85 = .ok (.getfield 105, 3) := by decide +kernel
theorem d_Mo_thing_88 : decode b_Mo_thing 88 = .ok (.iconst 1, 1) := by decide +kernel
theorem d_Mo_thing_89 : decode b_Mo_thing 89 = .ok (.isub, 1) := by decide +kernel
theorem d_Mo_thing_90 : decode b_Mo_thing 90 = .ok (.ireturn, 1) := by decide +kernel
set_option maxRecDepth 100000 in
set_option maxHeartbeats 4000000 in
theorem S_Mo_thing_0 {G : Gc} {M : Mc} {Q : State → Prop} {K : Option Value → Hp → Prop} (hG : gok G) (hM : mok G M r_Mo_thing Q K) (v0 : Nat) (v1 : Int32) (h : Hp) (F : sem G r_Mo_isIn [.int v1, .int 2, .int 4] h (fun u2 h1 => ∃ x3 : Int32, u2 = some (.int x3) ∧ ((x3 = 0 → K (some (.int (-2))) h1) ∧ (¬ x3 = 0 → (kT h1 v0 = 12 ∧ ((0 < (kI h1 v0 3) → K (some (.int (-2))) h1) ∧ (¬ 0 < (kI h1 v0 3) → (kT h1 v0 = 12 ∧ ((0 < (kI h1 v0 9) → K (some (.int (-2))) h1) ∧ (¬ 0 < (kI h1 v0 9) → (kT h1 v0 = 12 ∧ kR h1 v0 5 = some (rf h1 v0 5) ∧ (kT h1 (rf h1 v0 5) = 50 ∧ vp_in 12 (kN h1 (rf h1 v0 5)) ∧ (((kI h1 (rf h1 v0 5) (Int32.toNatClampNeg 12)) ≤ 0 → (kT h1 v0 = 12 ∧ (((kI h1 v0 0) = 8 → K (some (.int (-3))) h1) ∧ (¬ (kI h1 v0 0) = 8 → (kT h1 v0 = 12 ∧ sem G r_Mo_states [.ref v0] h1 (fun u5 h4 => ∃ x6 : Int32, u5 = some (.int x6) ∧ (((x6 * v1) ≤ 4096 → (kT h4 v0 = 12 ∧ kR h4 v0 1 = some (rf h4 v0 1) ∧ (kT h4 v0 = 12 ∧ (kT h4 (rf h4 v0 1) = 50 ∧ vp_in (kI h4 v0 0) (kN h4 (rf h4 v0 1)) ∧ (∀ h7 : Hp, h7 = wI h4 (rf h4 v0 1) (Int32.toNatClampNeg (kI h4 v0 0)) v1 → (kT h7 v0 = 12 ∧ (kT h7 v0 = 12 ∧ (∀ h8 : Hp, h8 = wI h7 v0 0 ((kI h7 v0 0) + 1) → (kT h8 v0 = 12 ∧ sem G r_Mo_forget [.ref v0] h8 (fun u10 h9 => u10 = none ∧ (kT h9 v0 = 12 ∧ K (some (.int ((kI h9 v0 0) - 1))) h9))))))))))) ∧ (¬ (x6 * v1) ≤ 4096 → K (some (.int (-3))) h4)))))))) ∧ (¬ (kI h1 (rf h1 v0 5) (Int32.toNatClampNeg 12)) ≤ 0 → K (some (.int (-2))) h1)))))))))))))) : X G M Q 0 [(0, .ref v0), (1, .int v1)] [] h := by
  refine x_iload_n hM d_Mo_thing_0 rfl 1 rfl ?_
  refine x_iconst (v := 2) hM d_Mo_thing_1 (by decide) ?_
  refine x_iconst (v := 4) hM d_Mo_thing_2 (by decide) ?_
  refine x_callS hG hM (r' := r_Mo_isIn) [.int v1, .int 2, .int 4] rfl yk_Mo_isIn ⟨Nat.le_of_ble_eq_true rfl, Nat.le_of_ble_eq_true rfl⟩ w_1017 w_1018 rfl rfl (Nat.le_of_ble_eq_true rfl) d_Mo_thing_3 (sem_mono F ?_)
  intro u2 h1 F
  obtain ⟨x3, rfl, F⟩ := F
  refine x_if_eq (tgt := 33) hM d_Mo_thing_6 (by decide) (fun q33 => ?_) (fun q33 => ?_)
  · replace F := F.1 q33
    refine x_bipush (v := (-2)) hM d_Mo_thing_33 (by decide) ?_
    exact x_ireturn hM d_Mo_thing_35 rfl F
  · replace F := F.2 q33
    refine x_aload_n hM d_Mo_thing_9 rfl 0 rfl ?_
    obtain ⟨c32, F⟩ := F
    refine x_geti hG hM ck_Mo 3 (Nat.le_of_ble_eq_true rfl) rfl rfl w_900 rfl d_Mo_thing_10 c32 ?_
    refine x_if_gt (tgt := 33) hM d_Mo_thing_13 (by decide) (fun q31 => ?_) (fun q31 => ?_)
    · replace F := F.1 q31
      refine x_bipush (v := (-2)) hM d_Mo_thing_33 (by decide) ?_
      exact x_ireturn hM d_Mo_thing_35 rfl F
    · replace F := F.2 q31
      refine x_aload_n hM d_Mo_thing_16 rfl 0 rfl ?_
      obtain ⟨c30, F⟩ := F
      refine x_geti hG hM ck_Mo 9 (Nat.le_of_ble_eq_true rfl) rfl rfl w_906 rfl d_Mo_thing_17 c30 ?_
      refine x_if_gt (tgt := 33) hM d_Mo_thing_20 (by decide) (fun q29 => ?_) (fun q29 => ?_)
      · replace F := F.1 q29
        refine x_bipush (v := (-2)) hM d_Mo_thing_33 (by decide) ?_
        exact x_ireturn hM d_Mo_thing_35 rfl F
      · replace F := F.2 q29
        refine x_aload_n hM d_Mo_thing_23 rfl 0 rfl ?_
        obtain ⟨c27, F⟩ := F
        obtain ⟨c28, F⟩ := F
        refine x_getr hG hM ck_Mo 5 (Nat.le_of_ble_eq_true rfl) rfl rfl w_902 rfl d_Mo_thing_24 c27 c28 ?_
        refine x_bipush (v := 12) hM d_Mo_thing_27 (by decide) ?_
        obtain ⟨c25, F⟩ := F
        obtain ⟨c26, F⟩ := F
        refine x_iaload hG hM d_Mo_thing_29 c25 c26 ?_
        refine x_if_le (tgt := 36) hM d_Mo_thing_30 (by decide) (fun q24 => ?_) (fun q24 => ?_)
        · replace F := F.1 q24
          refine x_aload_n hM d_Mo_thing_36 rfl 0 rfl ?_
          obtain ⟨c23, F⟩ := F
          refine x_geti hG hM ck_Mo 0 (Nat.le_of_ble_eq_true rfl) rfl rfl w_897 rfl d_Mo_thing_37 c23 ?_
          refine x_bipush (v := 8) hM d_Mo_thing_40 (by decide) ?_
          refine x_icmp_eq (tgt := 57) hM d_Mo_thing_42 (by decide) (fun q22 => ?_) (fun q22 => ?_)
          · replace F := F.1 q22
            refine x_bipush (v := (-3)) hM d_Mo_thing_57 (by decide) ?_
            exact x_ireturn hM d_Mo_thing_59 rfl F
          · replace F := F.2 q22
            refine x_aload_n hM d_Mo_thing_45 rfl 0 rfl ?_
            obtain ⟨c21, F⟩ := F
            refine x_callV hG hM (r' := r_Mo_states) (ci := 11) [] rfl rfl (Nat.le_of_ble_eq_true rfl) yk_Mo_states ⟨Nat.le_of_ble_eq_true rfl, Nat.le_of_ble_eq_true rfl⟩ w_1020 w_1022 ws_Mo_states rfl rfl (Nat.le_of_ble_eq_true rfl) d_Mo_thing_46 c21 (sem_mono F ?_)
            intro u5 h4 F
            obtain ⟨x6, rfl, F⟩ := F
            refine x_iload_n hM d_Mo_thing_49 rfl 1 rfl ?_
            refine x_imul hM d_Mo_thing_50 ?_
            refine x_sipush (v := 4096) hM d_Mo_thing_51 (by decide) ?_
            refine x_icmp_le (tgt := 60) hM d_Mo_thing_54 (by decide) (fun q20 => ?_) (fun q20 => ?_)
            · replace F := F.1 q20
              refine x_aload_n hM d_Mo_thing_60 rfl 0 rfl ?_
              obtain ⟨c18, F⟩ := F
              obtain ⟨c19, F⟩ := F
              refine x_getr hG hM ck_Mo 1 (Nat.le_of_ble_eq_true rfl) rfl rfl w_898 rfl d_Mo_thing_61 c18 c19 ?_
              refine x_aload_n hM d_Mo_thing_64 rfl 0 rfl ?_
              obtain ⟨c17, F⟩ := F
              refine x_geti hG hM ck_Mo 0 (Nat.le_of_ble_eq_true rfl) rfl rfl w_897 rfl d_Mo_thing_65 c17 ?_
              refine x_iload_n hM d_Mo_thing_68 rfl 1 rfl ?_
              obtain ⟨c15, F⟩ := F
              obtain ⟨c16, F⟩ := F
              obtain ⟨h7, eh7⟩ : ∃ z : Hp, z = wI h4 (rf h4 v0 1) (Int32.toNatClampNeg (kI h4 v0 0)) v1 := ⟨_, rfl⟩
              replace F := F h7 eh7
              refine x_iastore hG hM d_Mo_thing_69 c15 c16 ?_
              rw [← eh7]
              clear eh7
              refine x_aload_n hM d_Mo_thing_70 rfl 0 rfl ?_
              refine x_dup hM d_Mo_thing_71 rfl ?_
              obtain ⟨c14, F⟩ := F
              refine x_geti hG hM ck_Mo 0 (Nat.le_of_ble_eq_true rfl) rfl rfl w_897 rfl d_Mo_thing_72 c14 ?_
              refine x_iconst (v := 1) hM d_Mo_thing_75 (by decide) ?_
              refine x_iadd hM d_Mo_thing_76 ?_
              obtain ⟨c13, F⟩ := F
              obtain ⟨h8, eh8⟩ : ∃ z : Hp, z = wI h7 v0 0 ((kI h7 v0 0) + 1) := ⟨_, rfl⟩
              replace F := F h8 eh8
              refine x_puti hG hM ck_Mo 0 (Nat.le_of_ble_eq_true rfl) rfl rfl w_897 rfl d_Mo_thing_77 (Or.inl rfl) c13 ?_
              rw [← eh8]
              clear eh8
              refine x_aload_n hM d_Mo_thing_80 rfl 0 rfl ?_
              obtain ⟨c12, F⟩ := F
              refine x_callV hG hM (r' := r_Mo_forget) (ci := 11) [] rfl rfl (Nat.le_of_ble_eq_true rfl) yk_Mo_forget ⟨Nat.le_of_ble_eq_true rfl, Nat.le_of_ble_eq_true rfl⟩ w_893 w_895 ws_Mo_forget rfl rfl (Nat.le_of_ble_eq_true rfl) d_Mo_thing_81 c12 (sem_mono F ?_)
              intro u10 h9 F
              obtain ⟨rfl, F⟩ := F
              refine x_aload_n hM d_Mo_thing_84 rfl 0 rfl ?_
              obtain ⟨c11, F⟩ := F
              refine x_geti hG hM ck_Mo 0 (Nat.le_of_ble_eq_true rfl) rfl rfl w_897 rfl d_Mo_thing_85 c11 ?_
              refine x_iconst (v := 1) hM d_Mo_thing_88 (by decide) ?_
              refine x_isub hM d_Mo_thing_89 ?_
              exact x_ireturn hM d_Mo_thing_90 rfl F
            · replace F := F.2 q20
              refine x_bipush (v := (-3)) hM d_Mo_thing_57 (by decide) ?_
              exact x_ireturn hM d_Mo_thing_59 rfl F
        · replace F := F.2 q24
          refine x_bipush (v := (-2)) hM d_Mo_thing_33 (by decide) ?_
          exact x_ireturn hM d_Mo_thing_35 rfl F
theorem d_Mo_isIn_0 : decode b_Mo_isIn 0 = .ok (.iload_n 0, 1) := by decide +kernel
theorem d_Mo_isIn_1 : decode b_Mo_isIn 1 = .ok (.iload_n 1, 1) := by decide +kernel
theorem d_Mo_isIn_2 : decode b_Mo_isIn 2 = .ok (.if_icmp .lt 12, 3) := by decide +kernel
theorem d_Mo_isIn_5 : decode b_Mo_isIn 5 = .ok (.iload_n 0, 1) := by decide +kernel
theorem d_Mo_isIn_6 : decode b_Mo_isIn 6 = .ok (.iload_n 2, 1) := by decide +kernel
theorem d_Mo_isIn_7 : decode b_Mo_isIn 7 = .ok (.if_icmp .gt 7, 3) := by decide +kernel
theorem d_Mo_isIn_10 : decode b_Mo_isIn 10 = .ok (.iconst 1, 1) := by decide +kernel
theorem d_Mo_isIn_11 : decode b_Mo_isIn 11 = .ok (.goto 4, 3) := by decide +kernel
theorem d_Mo_isIn_14 : decode b_Mo_isIn 14 = .ok (.iconst 0, 1) := by decide +kernel
theorem d_Mo_isIn_15 : decode b_Mo_isIn 15 = .ok (.ireturn, 1) := by decide +kernel
set_option maxRecDepth 100000 in
set_option maxHeartbeats 4000000 in
theorem S_Mo_isIn_0 {G : Gc} {M : Mc} {Q : State → Prop} {K : Option Value → Hp → Prop} (hG : gok G) (hM : mok G M r_Mo_isIn Q K) (v0 : Int32) (v1 : Int32) (v2 : Int32) (h : Hp) (F : ∀ z1 : Int32, z1 = (if v0 < v1 then 0 else (if v2 < v0 then 0 else 1)) → (nb z1 ∧ K (some (.int z1)) h)) : X G M Q 0 [(0, .int v0), (1, .int v1), (2, .int v2)] [] h := by
  refine x_iload_n hM d_Mo_isIn_0 rfl 0 rfl ?_
  refine x_iload_n hM d_Mo_isIn_1 rfl 1 rfl ?_
  have JJ : ∀ (z1 : Int32) (ez1 : z1 = (if v0 < v1 then 0 else (if v2 < v0 then 0 else 1))), X G M Q 15 [] [.int z1] h := by
    intro z1 ez1
    replace F := F _ ez1
    exact x_zreturn hM d_Mo_isIn_15 rfl F.1 F.2
  refine x_icmp_lt (tgt := 14) hM d_Mo_isIn_2 (by decide) (fun q2 => ?_) (fun q2 => ?_)
  · refine x_iconst (v := 0) hM d_Mo_isIn_14 (by decide) ?_
    refine x_sub [] rfl ?_
    exact JJ _ (Eq.symm (if_pos q2))
  · refine x_iload_n hM d_Mo_isIn_5 rfl 0 rfl ?_
    refine x_iload_n hM d_Mo_isIn_6 rfl 2 rfl ?_
    refine x_icmp_gt (tgt := 14) hM d_Mo_isIn_7 (by decide) (fun q3 => ?_) (fun q3 => ?_)
    · refine x_iconst (v := 0) hM d_Mo_isIn_14 (by decide) ?_
      refine x_sub [] rfl ?_
      exact JJ _ (Eq.symm (Eq.trans (if_neg q2) (if_pos q3)))
    · refine x_iconst (v := 1) hM d_Mo_isIn_10 (by decide) ?_
      refine x_goto (tgt := 15) hM d_Mo_isIn_11 (by decide) ?_
      refine x_sub [] rfl ?_
      exact JJ _ (Eq.symm (Eq.trans (if_neg q2) (if_neg q3)))
theorem d_Mo_states_0 : decode b_Mo_states 0 = .ok (.iconst 1, 1) := by decide +kernel
theorem d_Mo_states_1 : decode b_Mo_states 1 = .ok (.istore_n 1, 1) := by decide +kernel
theorem d_Mo_states_2 : decode b_Mo_states 2 = .ok (.iconst 0, 1) := by decide +kernel
theorem d_Mo_states_3 : decode b_Mo_states 3 = .ok (.istore_n 2, 1) := by decide +kernel
theorem d_Mo_states_4 : decode b_Mo_states 4 = .ok (.iload_n 2, 1) := by decide +kernel
theorem d_Mo_states_5 : decode b_Mo_states 5 = .ok (.aload_n 0, 1) := by decide +kernel
theorem d_Mo_states_6 : decode b_Mo_states 6 = .ok (.getfield 105, 3) := by decide +kernel
theorem d_Mo_states_9 : decode b_Mo_states 9 = .ok (.if_icmp .ge 18, 3) := by decide +kernel
theorem d_Mo_states_12 : decode b_Mo_states 12 = .ok (.iload_n 1, 1) := by decide +kernel
theorem d_Mo_states_13 : decode b_Mo_states 13 = .ok (.aload_n 0, 1) := by decide +kernel
theorem d_Mo_states_14 : decode b_Mo_states 14 = .ok (.getfield 7, 3) := by decide +kernel
theorem d_Mo_states_17 : decode b_Mo_states 17 = .ok (.iload_n 2, 1) := by decide +kernel
theorem d_Mo_states_18 : decode b_Mo_states 18 = .ok (.iaload, 1) := by decide +kernel
theorem d_Mo_states_19 : decode b_Mo_states 19 = .ok (.imul, 1) := by decide +kernel
theorem d_Mo_states_20 : decode b_Mo_states 20 = .ok (.istore_n 1, 1) := by decide +kernel
theorem d_Mo_states_21 : decode b_Mo_states 21 = .ok (.iinc 2 1, 3) := by decide +kernel
theorem d_Mo_states_24 : decode b_Mo_states 24 = .ok (.goto (-20), 3) := by decide +kernel
theorem d_Mo_states_27 : decode b_Mo_states 27 = .ok (.iload_n 1, 1) := by decide +kernel
theorem d_Mo_states_28 : decode b_Mo_states 28 = .ok (.ireturn, 1) := by decide +kernel
set_option maxRecDepth 100000 in
set_option maxHeartbeats 4000000 in
theorem S_Mo_states_0 {G : Gc} {M : Mc} {Q : State → Prop} {K : Option Value → Hp → Prop} (hG : gok G) (hM : mok G M r_Mo_states Q K) (v0 : Nat) (h : Hp) (F : X G M Q 4 [(0, .ref v0), (1, .int 1), (2, .int 0)] [] h) : X G M Q 0 [(0, .ref v0)] [] h := by
  refine x_iconst (v := 1) hM d_Mo_states_0 (by decide) ?_
  refine x_istore_n (lv2 := [(1, .int 1), (0, .ref v0)]) hM d_Mo_states_1 rfl (Nat.le_of_ble_eq_true rfl) rfl ?_
  refine x_iconst (v := 0) hM d_Mo_states_2 (by decide) ?_
  refine x_istore_n (lv2 := [(2, .int 0), (1, .int 1), (0, .ref v0)]) hM d_Mo_states_3 rfl (Nat.le_of_ble_eq_true rfl) rfl ?_
  refine x_sub [2, 1, 0] rfl ?_
  exact F
set_option maxRecDepth 100000 in
set_option maxHeartbeats 4000000 in
theorem S_Mo_states_4 {G : Gc} {M : Mc} {Q : State → Prop} {K : Option Value → Hp → Prop} (hG : gok G) (hM : mok G M r_Mo_states Q K) (v0 : Nat) (v1 : Int32) (v2 : Int32) (h : Hp) (F : kT h v0 = 12 ∧ (((kI h v0 0) ≤ v2 → K (some (.int v1)) h) ∧ (¬ (kI h v0 0) ≤ v2 → (kT h v0 = 12 ∧ kR h v0 1 = some (rf h v0 1) ∧ (kT h (rf h v0 1) = 50 ∧ vp_in v2 (kN h (rf h v0 1)) ∧ X G M Q 4 [(0, .ref v0), (1, .int (v1 * (kI h (rf h v0 1) (Int32.toNatClampNeg v2)))), (2, .int (v2 + 1))] [] h))))) : X G M Q 4 [(0, .ref v0), (1, .int v1), (2, .int v2)] [] h := by
  refine x_iload_n hM d_Mo_states_4 rfl 2 rfl ?_
  refine x_aload_n hM d_Mo_states_5 rfl 0 rfl ?_
  obtain ⟨c6, F⟩ := F
  refine x_geti hG hM ck_Mo 0 (Nat.le_of_ble_eq_true rfl) rfl rfl w_897 rfl d_Mo_states_6 c6 ?_
  refine x_icmp_ge (tgt := 27) hM d_Mo_states_9 (by decide) (fun q5 => ?_) (fun q5 => ?_)
  · replace F := F.1 q5
    refine x_iload_n hM d_Mo_states_27 rfl 1 rfl ?_
    exact x_ireturn hM d_Mo_states_28 rfl F
  · replace F := F.2 q5
    refine x_iload_n hM d_Mo_states_12 rfl 1 rfl ?_
    refine x_aload_n hM d_Mo_states_13 rfl 0 rfl ?_
    obtain ⟨c3, F⟩ := F
    obtain ⟨c4, F⟩ := F
    refine x_getr hG hM ck_Mo 1 (Nat.le_of_ble_eq_true rfl) rfl rfl w_898 rfl d_Mo_states_14 c3 c4 ?_
    refine x_iload_n hM d_Mo_states_17 rfl 2 rfl ?_
    obtain ⟨c1, F⟩ := F
    obtain ⟨c2, F⟩ := F
    refine x_iaload hG hM d_Mo_states_18 c1 c2 ?_
    refine x_imul hM d_Mo_states_19 ?_
    refine x_istore_n (lv2 := [(1, .int (v1 * (kI h (rf h v0 1) (Int32.toNatClampNeg v2)))), (0, .ref v0), (2, .int v2)]) hM d_Mo_states_20 rfl (Nat.le_of_ble_eq_true rfl) rfl ?_
    refine x_iinc (v := (v2 + 1)) (lv2 := [(2, .int (v2 + 1)), (1, .int (v1 * (kI h (rf h v0 1) (Int32.toNatClampNeg v2)))), (0, .ref v0)]) hM d_Mo_states_21 (j := 2) rfl rfl (Nat.le_of_ble_eq_true rfl) rfl ?_
    refine x_goto (tgt := 4) hM d_Mo_states_24 (by decide) ?_
    refine x_sub [2, 1, 0] rfl ?_
    exact F
theorem d_Mo_start_0 : decode b_Mo_start 0 = .ok (.aload_n 0, 1) := by decide +kernel
theorem d_Mo_start_1 : decode b_Mo_start 1 = .ok (.iload_n 1, 1) := by decide +kernel
theorem d_Mo_start_2 : decode b_Mo_start 2 = .ok (.invokevirtual 126, 3) := by decide +kernel
theorem d_Mo_start_5 : decode b_Mo_start 5 = .ok (.ifCond .ne 6, 3) := by decide +kernel
theorem d_Mo_start_8 : decode b_Mo_start 8 = .ok (.bipush (-2), 2) := by decide +kernel
theorem d_Mo_start_10 : decode b_Mo_start 10 = .ok (.ireturn, 1) := by decide +kernel
theorem d_Mo_start_11 : decode b_Mo_start 11 = .ok (.aload_n 0, 1) := by decide +kernel
theorem d_Mo_start_12 : decode b_Mo_start 12 = .ok (.getfield 109, 3) := by decide +kernel
theorem d_Mo_start_15 : decode b_Mo_start 15 = .ok (.istore_n 2, 1) := by decide +kernel
theorem d_Mo_start_16 : decode b_Mo_start 16 = .ok (.aload_n 0, 1) := by decide +kernel
theorem d_Mo_start_17 : decode b_Mo_start 17 = .ok (.iload_n 1, 1) := by decide +kernel
theorem d_Mo_start_18 : decode b_Mo_start 18 = .ok (.putfield 109, 3) := by decide +kernel
theorem d_Mo_start_21 : decode b_Mo_start 21 = .ok (.aload_n 0, 1) := by decide +kernel
theorem d_Mo_start_22 : decode b_Mo_start 22 = .ok (.invokevirtual 95, 3) := by decide +kernel
theorem d_Mo_start_25 : decode b_Mo_start 25 = .ok (.iload_n 2, 1) := by decide +kernel
theorem d_Mo_start_26 : decode b_Mo_start 26 = .ok (.ireturn, 1) := by decide +kernel
set_option maxRecDepth 100000 in
set_option maxHeartbeats 4000000 in
theorem S_Mo_start_0 {G : Gc} {M : Mc} {Q : State → Prop} {K : Option Value → Hp → Prop} (hG : gok G) (hM : mok G M r_Mo_start Q K) (v0 : Nat) (v1 : Int32) (h : Hp) (F : kT h v0 = 12 ∧ sem G r_Mo_isState [.ref v0, .int v1] h (fun u2 h1 => ∃ x3 : Int32, u2 = some (.int x3) ∧ ((x3 = 0 → K (some (.int (-2))) h1) ∧ (¬ x3 = 0 → (kT h1 v0 = 12 ∧ (kT h1 v0 = 12 ∧ (∀ h4 : Hp, h4 = wI h1 v0 2 v1 → (kT h4 v0 = 12 ∧ sem G r_Mo_forget [.ref v0] h4 (fun u6 h5 => u6 = none ∧ K (some (.int (kI h1 v0 2))) h5))))))))) : X G M Q 0 [(0, .ref v0), (1, .int v1)] [] h := by
  refine x_aload_n hM d_Mo_start_0 rfl 0 rfl ?_
  refine x_iload_n hM d_Mo_start_1 rfl 1 rfl ?_
  obtain ⟨c11, F⟩ := F
  refine x_callV hG hM (r' := r_Mo_isState) (ci := 11) [.int v1] rfl rfl (Nat.le_of_ble_eq_true rfl) yk_Mo_isState ⟨Nat.le_of_ble_eq_true rfl, Nat.le_of_ble_eq_true rfl⟩ w_1028 w_1030 ws_Mo_isState rfl rfl (Nat.le_of_ble_eq_true rfl) d_Mo_start_2 c11 (sem_mono F ?_)
  intro u2 h1 F
  obtain ⟨x3, rfl, F⟩ := F
  refine x_if_ne (tgt := 11) hM d_Mo_start_5 (by decide) (fun q10 => ?_) (fun q10 => ?_)
  · replace F := F.2 q10
    refine x_aload_n hM d_Mo_start_11 rfl 0 rfl ?_
    obtain ⟨c9, F⟩ := F
    refine x_geti hG hM ck_Mo 2 (Nat.le_of_ble_eq_true rfl) rfl rfl w_899 rfl d_Mo_start_12 c9 ?_
    refine x_istore_n (lv2 := [(2, .int (kI h1 v0 2)), (0, .ref v0), (1, .int v1)]) hM d_Mo_start_15 rfl (Nat.le_of_ble_eq_true rfl) rfl ?_
    refine x_aload_n hM d_Mo_start_16 rfl 1 rfl ?_
    refine x_iload_n hM d_Mo_start_17 rfl 2 rfl ?_
    obtain ⟨c8, F⟩ := F
    obtain ⟨h4, eh4⟩ : ∃ z : Hp, z = wI h1 v0 2 v1 := ⟨_, rfl⟩
    replace F := F h4 eh4
    refine x_puti hG hM ck_Mo 2 (Nat.le_of_ble_eq_true rfl) rfl rfl w_899 rfl d_Mo_start_18 (Or.inl rfl) c8 ?_
    rw [← eh4]
    clear eh4
    refine x_aload_n hM d_Mo_start_21 rfl 1 rfl ?_
    obtain ⟨c7, F⟩ := F
    refine x_callV hG hM (r' := r_Mo_forget) (ci := 11) [] rfl rfl (Nat.le_of_ble_eq_true rfl) yk_Mo_forget ⟨Nat.le_of_ble_eq_true rfl, Nat.le_of_ble_eq_true rfl⟩ w_893 w_895 ws_Mo_forget rfl rfl (Nat.le_of_ble_eq_true rfl) d_Mo_start_22 c7 (sem_mono F ?_)
    intro u6 h5 F
    obtain ⟨rfl, F⟩ := F
    refine x_iload_n hM d_Mo_start_25 rfl 0 rfl ?_
    exact x_ireturn hM d_Mo_start_26 rfl F
  · replace F := F.1 q10
    refine x_bipush (v := (-2)) hM d_Mo_start_8 (by decide) ?_
    exact x_ireturn hM d_Mo_start_10 rfl F
theorem d_Mo_isState_0 : decode b_Mo_isState 0 = .ok (.iload_n 1, 1) := by decide +kernel
theorem d_Mo_isState_1 : decode b_Mo_isState 1 = .ok (.iconst 0, 1) := by decide +kernel
theorem d_Mo_isState_2 : decode b_Mo_isState 2 = .ok (.aload_n 0, 1) := by decide +kernel
theorem d_Mo_isState_3 : decode b_Mo_isState 3 = .ok (.invokevirtual 122, 3) := by decide +kernel
theorem d_Mo_isState_6 : decode b_Mo_isState 6 = .ok (.iconst 1, 1) := by decide +kernel
theorem d_Mo_isState_7 : decode b_Mo_isState 7 = .ok (.isub, 1) := by decide +kernel
theorem d_Mo_isState_8 : decode b_Mo_isState 8 = .ok (.invokestatic 118, 3) := by decide +kernel
theorem d_Mo_isState_11 : decode b_Mo_isState 11 = .ok (.ireturn, 1) := by decide +kernel
set_option maxRecDepth 100000 in
set_option maxHeartbeats 4000000 in
theorem S_Mo_isState_0 {G : Gc} {M : Mc} {Q : State → Prop} {K : Option Value → Hp → Prop} (hG : gok G) (hM : mok G M r_Mo_isState Q K) (v0 : Nat) (v1 : Int32) (h : Hp) (F : kT h v0 = 12 ∧ sem G r_Mo_states [.ref v0] h (fun u2 h1 => ∃ x3 : Int32, u2 = some (.int x3) ∧ (sem G r_Mo_isIn [.int v1, .int 0, .int (x3 - 1)] h1 (fun u5 h4 => ∃ x6 : Int32, u5 = some (.int x6) ∧ (nb x6 ∧ K (some (.int x6)) h4))))) : X G M Q 0 [(0, .ref v0), (1, .int v1)] [] h := by
  refine x_iload_n hM d_Mo_isState_0 rfl 1 rfl ?_
  refine x_iconst (v := 0) hM d_Mo_isState_1 (by decide) ?_
  refine x_aload_n hM d_Mo_isState_2 rfl 0 rfl ?_
  obtain ⟨c7, F⟩ := F
  refine x_callV hG hM (r' := r_Mo_states) (ci := 11) [] rfl rfl (Nat.le_of_ble_eq_true rfl) yk_Mo_states ⟨Nat.le_of_ble_eq_true rfl, Nat.le_of_ble_eq_true rfl⟩ w_1020 w_1022 ws_Mo_states rfl rfl (Nat.le_of_ble_eq_true rfl) d_Mo_isState_3 c7 (sem_mono F ?_)
  intro u2 h1 F
  obtain ⟨x3, rfl, F⟩ := F
  refine x_iconst (v := 1) hM d_Mo_isState_6 (by decide) ?_
  refine x_isub hM d_Mo_isState_7 ?_
  refine x_callS hG hM (r' := r_Mo_isIn) [.int v1, .int 0, .int (x3 - 1)] rfl yk_Mo_isIn ⟨Nat.le_of_ble_eq_true rfl, Nat.le_of_ble_eq_true rfl⟩ w_1017 w_1018 rfl rfl (Nat.le_of_ble_eq_true rfl) d_Mo_isState_8 (sem_mono F ?_)
  intro u5 h4 F
  obtain ⟨x6, rfl, F⟩ := F
  exact x_zreturn hM d_Mo_isState_11 rfl F.1 F.2
