theorem d_Mo_init_0 : decode b_Mo_init 0 = .ok (.aload_n 0, 1) := by decide +kernel
theorem d_Mo_init_1 : decode b_Mo_init 1 = .ok (.invokespecial 1, 3) := by decide +kernel
theorem d_Mo_init_4 : decode b_Mo_init 4 = .ok (.aload_n 0, 1) := by decide +kernel
theorem d_Mo_init_5 : decode b_Mo_init 5 = .ok (.bipush 8, 2) := by decide +kernel
theorem d_Mo_init_7 : decode b_Mo_init 7 = .ok (.newarray .int, 2) := by decide +kernel
theorem d_Mo_init_9 : decode b_Mo_init 9 = .ok (.putfield 7, 3) := by decide +kernel
theorem d_Mo_init_12 : decode b_Mo_init 12 = .ok (.aload_n 0, 1) := by decide +kernel
theorem d_Mo_init_13 : decode b_Mo_init 13 = .ok (.bipush 12, 2) := by decide +kernel
theorem d_Mo_init_15 : decode b_Mo_init 15 = .ok (.newarray .int, 2) := by decide +kernel
theorem d_Mo_init_17 : decode b_Mo_init 17 = .ok (.putfield 13, 3) := by decide +kernel
theorem d_Mo_init_20 : decode b_Mo_init 20 = .ok (.aload_n 0, 1) := by decide +kernel
theorem d_Mo_init_21 : decode b_Mo_init 21 = .ok (.bipush 19, 2) := by decide +kernel
theorem d_Mo_init_23 : decode b_Mo_init 23 = .ok (.newarray .int, 2) := by decide +kernel
theorem d_Mo_init_25 : decode b_Mo_init 25 = .ok (.putfield 16, 3) := by decide +kernel
theorem d_Mo_init_28 : decode b_Mo_init 28 = .ok (.aload_n 0, 1) := by decide +kernel
theorem d_Mo_init_29 : decode b_Mo_init 29 = .ok (.sipush 228, 3) := by decide +kernel
theorem d_Mo_init_32 : decode b_Mo_init 32 = .ok (.newarray .int, 2) := by decide +kernel
theorem d_Mo_init_34 : decode b_Mo_init 34 = .ok (.putfield 19, 3) := by decide +kernel
theorem d_Mo_init_37 : decode b_Mo_init 37 = .ok (.aload_n 0, 1) := by decide +kernel
theorem d_Mo_init_38 : decode b_Mo_init 38 = .ok (.bipush 36, 2) := by decide +kernel
theorem d_Mo_init_40 : decode b_Mo_init 40 = .ok (.newarray .int, 2) := by decide +kernel
theorem d_Mo_init_42 : decode b_Mo_init 42 = .ok (.putfield 22, 3) := by decide +kernel
theorem d_Mo_init_45 : decode b_Mo_init 45 = .ok (.aload_n 0, 1) := by decide +kernel
theorem d_Mo_init_46 : decode b_Mo_init 46 = .ok (.sipush 432, 3) := by decide +kernel
theorem d_Mo_init_49 : decode b_Mo_init 49 = .ok (.newarray .int, 2) := by decide +kernel
theorem d_Mo_init_51 : decode b_Mo_init 51 = .ok (.putfield 25, 3) := by decide +kernel
theorem d_Mo_init_54 : decode b_Mo_init 54 = .ok (.aload_n 0, 1) := by decide +kernel
theorem d_Mo_init_55 : decode b_Mo_init 55 = .ok (.bipush 8, 2) := by decide +kernel
theorem d_Mo_init_57 : decode b_Mo_init 57 = .ok (.newarray .int, 2) := by decide +kernel
theorem d_Mo_init_59 : decode b_Mo_init 59 = .ok (.putfield 28, 3) := by decide +kernel
theorem d_Mo_init_62 : decode b_Mo_init 62 = .ok (.aload_n 0, 1) := by decide +kernel
theorem d_Mo_init_63 : decode b_Mo_init 63 = .ok (.bipush 8, 2) := by decide +kernel
theorem d_Mo_init_65 : decode b_Mo_init 65 = .ok (.newarray .int, 2) := by decide +kernel
theorem d_Mo_init_67 : decode b_Mo_init 67 = .ok (.putfield 31, 3) := by decide +kernel
theorem d_Mo_init_70 : decode b_Mo_init 70 = .ok (.aload_n 0, 1) := by decide +kernel
theorem d_Mo_init_71 : decode b_Mo_init 71 = .ok (.ldc 34, 2) := by decide +kernel
theorem d_Mo_init_73 : decode b_Mo_init 73 = .ok (.newarray .int, 2) := by decide +kernel
theorem d_Mo_init_75 : decode b_Mo_init 75 = .ok (.putfield 35, 3) := by decide +kernel
theorem d_Mo_init_78 : decode b_Mo_init 78 = .ok (.aload_n 0, 1) := by decide +kernel
theorem d_Mo_init_79 : decode b_Mo_init 79 = .ok (.sipush 4096, 3) := by decide +kernel
theorem d_Mo_init_82 : decode b_Mo_init 82 = .ok (.newarray .boolean, 2) := by decide +kernel
theorem d_Mo_init_84 : decode b_Mo_init 84 = .ok (.putfield 38, 3) := by decide +kernel
theorem d_Mo_init_87 : decode b_Mo_init 87 = .ok (.aload_n 0, 1) := by decide +kernel
theorem d_Mo_init_88 : decode b_Mo_init 88 = .ok (.sipush 4096, 3) := by decide +kernel
theorem d_Mo_init_91 : decode b_Mo_init 91 = .ok (.newarray .int, 2) := by decide +kernel
theorem d_Mo_init_93 : decode b_Mo_init 93 = .ok (.putfield 42, 3) := by decide +kernel
theorem d_Mo_init_96 : decode b_Mo_init 96 = .ok (.aload_n 0, 1) := by decide +kernel
theorem d_Mo_init_97 : decode b_Mo_init 97 = .ok (.ldc 34, 2) := by decide +kernel
theorem d_Mo_init_99 : decode b_Mo_init 99 = .ok (.newarray .int, 2) := by decide +kernel
theorem d_Mo_init_101 : decode b_Mo_init 101 = .ok (.putfield 45, 3) := by decide +kernel
theorem d_Mo_init_104 : decode b_Mo_init 104 = .ok (.aload_n 0, 1) := by decide +kernel
theorem d_Mo_init_105 : decode b_Mo_init 105 = .ok (.ldc 34, 2) := by decide +kernel
theorem d_Mo_init_107 : decode b_Mo_init 107 = .ok (.newarray .int, 2) := by decide +kernel
theorem d_Mo_init_109 : decode b_Mo_init 109 = .ok (.putfield 48, 3) := by decide +kernel
theorem d_Mo_init_112 : decode b_Mo_init 112 = .ok (.aload_n 0, 1) := by decide +kernel
theorem d_Mo_init_113 : decode b_Mo_init 113 = .ok (.sipush 4096, 3) := by decide +kernel
theorem d_Mo_init_116 : decode b_Mo_init 116 = .ok (.newarray .int, 2) := by decide +kernel
theorem d_Mo_init_118 : decode b_Mo_init 118 = .ok (.putfield 51, 3) := by decide +kernel
theorem d_Mo_init_121 : decode b_Mo_init 121 = .ok (.aload_n 0, 1) := by decide +kernel
theorem d_Mo_init_122 : decode b_Mo_init 122 = .ok (.sipush 4096, 3) := by decide +kernel
theorem d_Mo_init_125 : decode b_Mo_init 125 = .ok (.newarray .int, 2) := by decide +kernel
theorem d_Mo_init_127 : decode b_Mo_init 127 = .ok (.putfield 54, 3) := by decide +kernel
theorem d_Mo_init_130 : decode b_Mo_init 130 = .ok (.aload_n 0, 1) := by decide +kernel
theorem d_Mo_init_131 : decode b_Mo_init 131 = .ok (.sipush 4096, 3) := by decide +kernel
theorem d_Mo_init_134 : decode b_Mo_init 134 = .ok (.newarray .int, 2) := by decide +kernel
theorem d_Mo_init_136 : decode b_Mo_init 136 = .ok (.putfield 57, 3) := by decide +kernel
theorem d_Mo_init_139 : decode b_Mo_init 139 = .ok (.aload_n 0, 1) := by decide +kernel
theorem d_Mo_init_140 : decode b_Mo_init 140 = .ok (.sipush 4096, 3) := by decide +kernel
theorem d_Mo_init_143 : decode b_Mo_init 143 = .ok (.newarray .int, 2) := by decide +kernel
theorem d_Mo_init_145 : decode b_Mo_init 145 = .ok (.putfield 60, 3) := by decide +kernel
theorem d_Mo_init_148 : decode b_Mo_init 148 = .ok (.aload_n 0, 1) := by decide +kernel
theorem d_Mo_init_149 : decode b_Mo_init 149 = .ok (.sipush 4096, 3) := by decide +kernel
theorem d_Mo_init_152 : decode b_Mo_init 152 = .ok (.newarray .int, 2) := by decide +kernel
theorem d_Mo_init_154 : decode b_Mo_init 154 = .ok (.putfield 63, 3) := by decide +kernel
theorem d_Mo_init_157 : decode b_Mo_init 157 = .ok (.aload_n 0, 1) := by decide +kernel
theorem d_Mo_init_158 : decode b_Mo_init 158 = .ok (.ldc 66, 2) := by decide +kernel
theorem d_Mo_init_160 : decode b_Mo_init 160 = .ok (.newarray .int, 2) := by decide +kernel
theorem d_Mo_init_162 : decode b_Mo_init 162 = .ok (.putfield 67, 3) := by decide +kernel
theorem d_Mo_init_165 : decode b_Mo_init 165 = .ok (.aload_n 0, 1) := by decide +kernel
theorem d_Mo_init_166 : decode b_Mo_init 166 = .ok (.sipush 4096, 3) := by decide +kernel
theorem d_Mo_init_169 : decode b_Mo_init 169 = .ok (.newarray .boolean, 2) := by decide +kernel
theorem d_Mo_init_171 : decode b_Mo_init 171 = .ok (.putfield 70, 3) := by decide +kernel
theorem d_Mo_init_174 : decode b_Mo_init 174 = .ok (.aload_n 0, 1) := by decide +kernel
theorem d_Mo_init_175 : decode b_Mo_init 175 = .ok (.sipush 4096, 3) := by decide +kernel
theorem d_Mo_init_178 : decode b_Mo_init 178 = .ok (.newarray .int, 2) := by decide +kernel
theorem d_Mo_init_180 : decode b_Mo_init 180 = .ok (.putfield 73, 3) := by decide +kernel
theorem d_Mo_init_183 : decode b_Mo_init 183 = .ok (.aload_n 0, 1) := by decide +kernel
theorem d_Mo_init_184 : decode b_Mo_init 184 = .ok (.sipush 4096, 3) := by decide +kernel
theorem d_Mo_init_187 : decode b_Mo_init 187 = .ok (.newarray .int, 2) := by decide +kernel
theorem d_Mo_init_189 : decode b_Mo_init 189 = .ok (.putfield 76, 3) := by decide +kernel
theorem d_Mo_init_192 : decode b_Mo_init 192 = .ok (.aload_n 0, 1) := by decide +kernel
theorem d_Mo_init_193 : decode b_Mo_init 193 = .ok (.sipush 4096, 3) := by decide +kernel
theorem d_Mo_init_196 : decode b_Mo_init 196 = .ok (.newarray .long, 2) := by decide +kernel
theorem d_Mo_init_198 : decode b_Mo_init 198 = .ok (.putfield 79, 3) := by decide +kernel
theorem d_Mo_init_201 : decode b_Mo_init 201 = .ok (.aload_n 0, 1) := by decide +kernel
theorem d_Mo_init_202 : decode b_Mo_init 202 = .ok (.sipush 8192, 3) := by decide +kernel
theorem d_Mo_init_205 : decode b_Mo_init 205 = .ok (.newarray .int, 2) := by decide +kernel
theorem d_Mo_init_207 : decode b_Mo_init 207 = .ok (.putfield 83, 3) := by decide +kernel
theorem d_Mo_init_210 : decode b_Mo_init 210 = .ok (.aload_n 0, 1) := by decide +kernel
theorem d_Mo_init_211 : decode b_Mo_init 211 = .ok (.sipush 4096, 3) := by decide +kernel
theorem d_Mo_init_214 : decode b_Mo_init 214 = .ok (.newarray .int, 2) := by decide +kernel
theorem d_Mo_init_216 : decode b_Mo_init 216 = .ok (.putfield 86, 3) := by decide +kernel
theorem d_Mo_init_219 : decode b_Mo_init 219 = .ok (.aload_n 0, 1) := by decide +kernel
theorem d_Mo_init_220 : decode b_Mo_init 220 = .ok (.sipush 4096, 3) := by decide +kernel
theorem d_Mo_init_223 : decode b_Mo_init 223 = .ok (.newarray .long, 2) := by decide +kernel
theorem d_Mo_init_225 : decode b_Mo_init 225 = .ok (.putfield 89, 3) := by decide +kernel
theorem d_Mo_init_228 : decode b_Mo_init 228 = .ok (.aload_n 0, 1) := by decide +kernel
theorem d_Mo_init_229 : decode b_Mo_init 229 = .ok (.sipush 4096, 3) := by decide +kernel
theorem d_Mo_init_232 : decode b_Mo_init 232 = .ok (.newarray .boolean, 2) := by decide +kernel
theorem d_Mo_init_234 : decode b_Mo_init 234 = .ok (.putfield 92, 3) := by decide +kernel
theorem d_Mo_init_237 : decode b_Mo_init 237 = .ok (.aload_n 0, 1) := by decide +kernel
theorem d_Mo_init_238 : decode b_Mo_init 238 = .ok (.invokevirtual 95, 3) := by decide +kernel
theorem d_Mo_init_241 : decode b_Mo_init 241 = .ok (.return_, 1) := by decide +kernel
theorem d_Mo_forget_0 : decode b_Mo_forget 0 = .ok (.aload_n 0, 1) := by decide +kernel
theorem d_Mo_forget_1 : decode b_Mo_forget 1 = .ok (.iconst 0, 1) := by decide +kernel
theorem d_Mo_forget_2 : decode b_Mo_forget 2 = .ok (.putfield 98, 3) := by decide +kernel
theorem d_Mo_forget_5 : decode b_Mo_forget 5 = .ok (.aload_n 0, 1) := by decide +kernel
theorem d_Mo_forget_6 : decode b_Mo_forget 6 = .ok (.iconst 0, 1) := by decide +kernel
theorem d_Mo_forget_7 : decode b_Mo_forget 7 = .ok (.putfield 102, 3) := by decide +kernel
theorem d_Mo_forget_10 : decode b_Mo_forget 10 = .ok (.return_, 1) := by decide +kernel
theorem d_Mo_clear_0 : decode b_Mo_clear 0 = .ok (.aload_n 0, 1) := by decide +kernel
theorem d_Mo_clear_1 : decode b_Mo_clear 1 = .ok (.getfield 105, 3) := by decide +kernel
theorem d_Mo_clear_4 : decode b_Mo_clear 4 = .ok (.istore_n 1, 1) := by decide +kernel
theorem d_Mo_clear_5 : decode b_Mo_clear 5 = .ok (.aload_n 0, 1) := by decide +kernel
theorem d_Mo_clear_6 : decode b_Mo_clear 6 = .ok (.iconst 0, 1) := by decide +kernel
theorem d_Mo_clear_7 : decode b_Mo_clear 7 = .ok (.putfield 105, 3) := by decide +kernel
theorem d_Mo_clear_10 : decode b_Mo_clear 10 = .ok (.aload_n 0, 1) := by decide +kernel
theorem d_Mo_clear_11 : decode b_Mo_clear 11 = .ok (.iconst 0, 1) := by decide +kernel
theorem d_Mo_clear_12 : decode b_Mo_clear 12 = .ok (.putfield 109, 3) := by decide +kernel
theorem d_Mo_clear_15 : decode b_Mo_clear 15 = .ok (.aload_n 0, 1) := by decide +kernel
theorem d_Mo_clear_16 : decode b_Mo_clear 16 = .ok (.iconst 0, 1) := by decide +kernel
theorem d_Mo_clear_17 : decode b_Mo_clear 17 = .ok (.putfield 112, 3) := by decide +kernel
theorem d_Mo_clear_20 : decode b_Mo_clear 20 = .ok (.aload_n 0, 1) := by decide +kernel
theorem d_Mo_clear_21 : decode b_Mo_clear 21 = .ok (.iconst 0, 1) := by decide +kernel
theorem d_Mo_clear_22 : decode b_Mo_clear 22 = .ok (.putfield 115, 3) := by decide +kernel
theorem d_Mo_clear_25 : decode b_Mo_clear 25 = .ok (.aload_n 0, 1) := by decide +kernel
theorem d_Mo_clear_26 : decode b_Mo_clear 26 = .ok (.getfield 16, 3) := by decide +kernel
theorem d_Mo_clear_29 : decode b_Mo_clear 29 = .ok (.bipush 12, 2) := by decide +kernel
theorem d_Mo_clear_31 : decode b_Mo_clear 31 = .ok (.iconst 0, 1) := by decide +kernel
theorem d_Mo_clear_32 : decode b_Mo_clear 32 = .ok (.iastore, 1) := by decide +kernel
theorem d_Mo_clear_33 : decode b_Mo_clear 33 = .ok (.aload_n 0, 1) := by decide +kernel
theorem d_Mo_clear_34 : decode b_Mo_clear 34 = .ok (.invokevirtual 95, 3) := by decide +kernel
theorem d_Mo_clear_37 : decode b_Mo_clear 37 = .ok (.iload_n 1, 1) := by decide +kernel
theorem d_Mo_clear_38 : decode b_Mo_clear 38 = .ok (.ireturn, 1) := by decide +kernel
theorem d_Mo_thing_0 : decode b_Mo_thing 0 = .ok (.iload_n 1, 1) := by decide +kernel
theorem d_Mo_thing_1 : decode b_Mo_thing 1 = .ok (.iconst 2, 1) := by decide +kernel
theorem d_Mo_thing_2 : decode b_Mo_thing 2 = .ok (.iconst 4, 1) := by decide +kernel
theorem d_Mo_thing_3 : decode b_Mo_thing 3 = .ok (.invokestatic 118, 3) := by decide +kernel
theorem d_Mo_thing_6 : decode b_Mo_thing 6 = .ok (.ifCond .eq 27, 3) := by decide +kernel
theorem d_Mo_thing_9 : decode b_Mo_thing 9 = .ok (.aload_n 0, 1) := by decide +kernel
theorem d_Mo_thing_10 : decode b_Mo_thing 10 = .ok (.getfield 112, 3) := by decide +kernel
theorem d_Mo_thing_13 : decode b_Mo_thing 13 = .ok (.ifCond .gt 20, 3) := by decide +kernel
theorem d_Mo_thing_16 : decode b_Mo_thing 16 = .ok (.aload_n 0, 1) := by decide +kernel
theorem d_Mo_thing_17 : decode b_Mo_thing 17 = .ok (.getfield 115, 3) := by decide +kernel
theorem d_Mo_thing_20 : decode b_Mo_thing 20 = .ok (.ifCond .gt 13, 3) := by decide +kernel
theorem d_Mo_thing_23 : decode b_Mo_thing 23 = .ok (.aload_n 0, 1) := by decide +kernel
theorem d_Mo_thing_24 : decode b_Mo_thing 24 = .ok (.getfield 16, 3) := by decide +kernel
theorem d_Mo_thing_27 : decode b_Mo_thing 27 = .ok (.bipush 12, 2) := by decide +kernel
theorem d_Mo_thing_29 : decode b_Mo_thing 29 = .ok (.iaload, 1) := by decide +kernel
theorem d_Mo_thing_30 : decode b_Mo_thing 30 = .ok (.ifCond .le 6, 3) := by decide +kernel
theorem d_Mo_thing_33 : decode b_Mo_thing 33 = .ok (.bipush (-2), 2) := by decide +kernel
theorem d_Mo_thing_35 : decode b_Mo_thing 35 = .ok (.ireturn, 1) := by decide +kernel
theorem d_Mo_thing_36 : decode b_Mo_thing 36 = .ok (.aload_n 0, 1) := by decide +kernel
theorem d_Mo_thing_37 : decode b_Mo_thing 37 = .ok (.getfield 105, 3) := by decide +kernel
theorem d_Mo_thing_40 : decode b_Mo_thing 40 = .ok (.bipush 8, 2) := by decide +kernel
theorem d_Mo_thing_42 : decode b_Mo_thing 42 = .ok (.if_icmp .eq 15, 3) := by decide +kernel
theorem d_Mo_thing_45 : decode b_Mo_thing 45 = .ok (.aload_n 0, 1) := by decide +kernel
theorem d_Mo_thing_46 : decode b_Mo_thing 46 = .ok (.invokevirtual 122, 3) := by decide +kernel
theorem d_Mo_thing_49 : decode b_Mo_thing 49 = .ok (.iload_n 1, 1) := by decide +kernel
theorem d_Mo_thing_50 : decode b_Mo_thing 50 = .ok (.imul, 1) := by decide +kernel
theorem d_Mo_thing_51 : decode b_Mo_thing 51 = .ok (.sipush 4096, 3) := by decide +kernel
theorem d_Mo_thing_54 : decode b_Mo_thing 54 = .ok (.if_icmp .le 6, 3) := by decide +kernel
theorem d_Mo_thing_57 : decode b_Mo_thing 57 = .ok (.bipush (-3), 2) := by decide +kernel
theorem d_Mo_thing_59 : decode b_Mo_thing 59 = .ok (.ireturn, 1) := by decide +kernel
theorem d_Mo_thing_60 : decode b_Mo_thing 60 = .ok (.aload_n 0, 1) := by decide +kernel
theorem d_Mo_thing_61 : decode b_Mo_thing 61 = .ok (.getfield 7, 3) := by decide +kernel
theorem d_Mo_thing_64 : decode b_Mo_thing 64 = .ok (.aload_n 0, 1) := by decide +kernel
theorem d_Mo_thing_65 : decode b_Mo_thing 65 = .ok (.getfield 105, 3) := by decide +kernel
theorem d_Mo_thing_68 : decode b_Mo_thing 68 = .ok (.iload_n 1, 1) := by decide +kernel
theorem d_Mo_thing_69 : decode b_Mo_thing 69 = .ok (.iastore, 1) := by decide +kernel
theorem d_Mo_thing_70 : decode b_Mo_thing 70 = .ok (.aload_n 0, 1) := by decide +kernel
theorem d_Mo_thing_71 : decode b_Mo_thing 71 = .ok (.dup, 1) := by decide +kernel
theorem d_Mo_thing_72 : decode b_Mo_thing 72 = .ok (.getfield 105, 3) := by decide +kernel
theorem d_Mo_thing_75 : decode b_Mo_thing 75 = .ok (.iconst 1, 1) := by decide +kernel
theorem d_Mo_thing_76 : decode b_Mo_thing 76 = .ok (.iadd, 1) := by decide +kernel
theorem d_Mo_thing_77 : decode b_Mo_thing 77 = .ok (.putfield 105, 3) := by decide +kernel
theorem d_Mo_thing_80 : decode b_Mo_thing 80 = .ok (.aload_n 0, 1) := by decide +kernel
theorem d_Mo_thing_81 : decode b_Mo_thing 81 = .ok (.invokevirtual 95, 3) := by decide +kernel
theorem d_Mo_thing_84 : decode b_Mo_thing 84 = .ok (.aload_n 0, 1) := by decide +kernel
theorem d_Mo_thing_85 : decode b_Mo_thing 85 = .ok (.getfield 105, 3) := by decide +kernel
theorem d_Mo_thing_88 : decode b_Mo_thing 88 = .ok (.iconst 1, 1) := by decide +kernel
theorem d_Mo_thing_89 : decode b_Mo_thing 89 = .ok (.isub, 1) := by decide +kernel
theorem d_Mo_thing_90 : decode b_Mo_thing 90 = .ok (.ireturn, 1) := by decide +kernel
theorem d_Mo_isIn_0 : decode b_Mo_isIn 0 = .ok (.iload_n 0, 1) := by decide +kernel
theorem d_Mo_isIn_1 : decode b_Mo_isIn 1 = .ok (.iload_n 1, 1) := by decide +kernel
theorem d_Mo_isIn_2 : decode b_Mo_isIn 2 = .ok (.if_icmp .lt 12, 3) := by decide +kernel
theorem d_Mo_isIn_5 : decode b_Mo_isIn 5 = .ok (.iload_n 0, 1) := by decide +kernel
theorem d_Mo_isIn_6 : decode b_Mo_isIn 6 = .ok (.iload_n 2, 1) := by decide +kernel
theorem d_Mo_isIn_7 : decode b_Mo_isIn 7 = .ok (.if_icmp .gt 7, 3) := by decide +kernel
theorem d_Mo_isIn_10 : decode b_Mo_isIn 10 = .ok (.iconst 1, 1) := by decide +kernel
theorem d_Mo_isIn_11 : decode b_Mo_isIn 11 = .ok (.goto 4, 3) := by decide +kernel
theorem d_Mo_isIn_14 : decode b_Mo_isIn 14 = .ok (.iconst 0, 1) := by decide +kernel
theorem d_Mo_isIn_15 : decode b_Mo_isIn 15 = .ok (.ireturn, 1) := by decide +kernel
theorem d_Mo_states_0 : decode b_Mo_states 0 = .ok (.iconst 1, 1) := by decide +kernel
theorem d_Mo_states_1 : decode b_Mo_states 1 = .ok (.istore_n 1, 1) := by decide +kernel
theorem d_Mo_states_2 : decode b_Mo_states 2 = .ok (.iconst 0, 1) := by decide +kernel
theorem d_Mo_states_3 : decode b_Mo_states 3 = .ok (.istore_n 2, 1) := by decide +kernel
theorem d_Mo_states_4 : decode b_Mo_states 4 = .ok (.iload_n 2, 1) := by decide +kernel
theorem d_Mo_states_5 : decode b_Mo_states 5 = .ok (.aload_n 0, 1) := by decide +kernel
theorem d_Mo_states_6 : decode b_Mo_states 6 = .ok (.getfield 105, 3) := by decide +kernel
theorem d_Mo_states_9 : decode b_Mo_states 9 = .ok (.if_icmp .ge 18, 3) := by decide +kernel
theorem d_Mo_states_12 : decode b_Mo_states 12 = .ok (.iload_n 1, 1) := by decide +kernel
theorem d_Mo_states_13 : decode b_Mo_states 13 = .ok (.aload_n 0, 1) := by decide +kernel
theorem d_Mo_states_14 : decode b_Mo_states 14 = .ok (.getfield 7, 3) := by decide +kernel
theorem d_Mo_states_17 : decode b_Mo_states 17 = .ok (.iload_n 2, 1) := by decide +kernel
theorem d_Mo_states_18 : decode b_Mo_states 18 = .ok (.iaload, 1) := by decide +kernel
theorem d_Mo_states_19 : decode b_Mo_states 19 = .ok (.imul, 1) := by decide +kernel
theorem d_Mo_states_20 : decode b_Mo_states 20 = .ok (.istore_n 1, 1) := by decide +kernel
theorem d_Mo_states_21 : decode b_Mo_states 21 = .ok (.iinc 2 1, 3) := by decide +kernel
theorem d_Mo_states_24 : decode b_Mo_states 24 = .ok (.goto (-20), 3) := by decide +kernel
theorem d_Mo_states_27 : decode b_Mo_states 27 = .ok (.iload_n 1, 1) := by decide +kernel
theorem d_Mo_states_28 : decode b_Mo_states 28 = .ok (.ireturn, 1) := by decide +kernel
theorem d_Mo_start_0 : decode b_Mo_start 0 = .ok (.aload_n 0, 1) := by decide +kernel
theorem d_Mo_start_1 : decode b_Mo_start 1 = .ok (.iload_n 1, 1) := by decide +kernel
theorem d_Mo_start_2 : decode b_Mo_start 2 = .ok (.invokevirtual 126, 3) := by decide +kernel
theorem d_Mo_start_5 : decode b_Mo_start 5 = .ok (.ifCond .ne 6, 3) := by decide +kernel
theorem d_Mo_start_8 : decode b_Mo_start 8 = .ok (.bipush (-2), 2) := by decide +kernel
theorem d_Mo_start_10 : decode b_Mo_start 10 = .ok (.ireturn, 1) := by decide +kernel
theorem d_Mo_start_11 : decode b_Mo_start 11 = .ok (.aload_n 0, 1) := by decide +kernel
theorem d_Mo_start_12 : decode b_Mo_start 12 = .ok (.getfield 109, 3) := by decide +kernel
theorem d_Mo_start_15 : decode b_Mo_start 15 = .ok (.istore_n 2, 1) := by decide +kernel
theorem d_Mo_start_16 : decode b_Mo_start 16 = .ok (.aload_n 0, 1) := by decide +kernel
theorem d_Mo_start_17 : decode b_Mo_start 17 = .ok (.iload_n 1, 1) := by decide +kernel
theorem d_Mo_start_18 : decode b_Mo_start 18 = .ok (.putfield 109, 3) := by decide +kernel
theorem d_Mo_start_21 : decode b_Mo_start 21 = .ok (.aload_n 0, 1) := by decide +kernel
theorem d_Mo_start_22 : decode b_Mo_start 22 = .ok (.invokevirtual 95, 3) := by decide +kernel
theorem d_Mo_start_25 : decode b_Mo_start 25 = .ok (.iload_n 2, 1) := by decide +kernel
theorem d_Mo_start_26 : decode b_Mo_start 26 = .ok (.ireturn, 1) := by decide +kernel
theorem d_Mo_isState_0 : decode b_Mo_isState 0 = .ok (.iload_n 1, 1) := by decide +kernel
theorem d_Mo_isState_1 : decode b_Mo_isState 1 = .ok (.iconst 0, 1) := by decide +kernel
theorem d_Mo_isState_2 : decode b_Mo_isState 2 = .ok (.aload_n 0, 1) := by decide +kernel
theorem d_Mo_isState_3 : decode b_Mo_isState 3 = .ok (.invokevirtual 122, 3) := by decide +kernel
theorem d_Mo_isState_6 : decode b_Mo_isState 6 = .ok (.iconst 1, 1) := by decide +kernel
theorem d_Mo_isState_7 : decode b_Mo_isState 7 = .ok (.isub, 1) := by decide +kernel
theorem d_Mo_isState_8 : decode b_Mo_isState 8 = .ok (.invokestatic 118, 3) := by decide +kernel
theorem d_Mo_isState_11 : decode b_Mo_isState 11 = .ok (.ireturn, 1) := by decide +kernel
theorem d_Mo_act_0 : decode b_Mo_act 0 = .ok (.aload_n 0, 1) := by decide +kernel
theorem d_Mo_act_1 : decode b_Mo_act 1 = .ok (.getfield 112, 3) := by decide +kernel
theorem d_Mo_act_4 : decode b_Mo_act 4 = .ok (.bipush 12, 2) := by decide +kernel
theorem d_Mo_act_6 : decode b_Mo_act 6 = .ok (.if_icmp .ne 6, 3) := by decide +kernel
theorem d_Mo_act_9 : decode b_Mo_act 9 = .ok (.bipush (-3), 2) := by decide +kernel
theorem d_Mo_act_11 : decode b_Mo_act 11 = .ok (.ireturn, 1) := by decide +kernel
theorem d_Mo_act_12 : decode b_Mo_act 12 = .ok (.aload_n 0, 1) := by decide +kernel
theorem d_Mo_act_13 : decode b_Mo_act 13 = .ok (.getfield 13, 3) := by decide +kernel
theorem d_Mo_act_16 : decode b_Mo_act 16 = .ok (.aload_n 0, 1) := by decide +kernel
theorem d_Mo_act_17 : decode b_Mo_act 17 = .ok (.getfield 112, 3) := by decide +kernel
theorem d_Mo_act_20 : decode b_Mo_act 20 = .ok (.iconst 1, 1) := by decide +kernel
theorem d_Mo_act_21 : decode b_Mo_act 21 = .ok (.iastore, 1) := by decide +kernel
theorem d_Mo_act_22 : decode b_Mo_act 22 = .ok (.aload_n 0, 1) := by decide +kernel
theorem d_Mo_act_23 : decode b_Mo_act 23 = .ok (.getfield 16, 3) := by decide +kernel
theorem d_Mo_act_26 : decode b_Mo_act 26 = .ok (.aload_n 0, 1) := by decide +kernel
theorem d_Mo_act_27 : decode b_Mo_act 27 = .ok (.getfield 112, 3) := by decide +kernel
theorem d_Mo_act_30 : decode b_Mo_act 30 = .ok (.iconst 0, 1) := by decide +kernel
theorem d_Mo_act_31 : decode b_Mo_act 31 = .ok (.iastore, 1) := by decide +kernel
theorem d_Mo_act_32 : decode b_Mo_act 32 = .ok (.aload_n 0, 1) := by decide +kernel
theorem d_Mo_act_33 : decode b_Mo_act 33 = .ok (.getfield 22, 3) := by decide +kernel
theorem d_Mo_act_36 : decode b_Mo_act 36 = .ok (.iconst 3, 1) := by decide +kernel
theorem d_Mo_act_37 : decode b_Mo_act 37 = .ok (.aload_n 0, 1) := by decide +kernel
theorem d_Mo_act_38 : decode b_Mo_act 38 = .ok (.getfield 112, 3) := by decide +kernel
theorem d_Mo_act_41 : decode b_Mo_act 41 = .ok (.imul, 1) := by decide +kernel
theorem d_Mo_act_42 : decode b_Mo_act 42 = .ok (.iconst 0, 1) := by decide +kernel
theorem d_Mo_act_43 : decode b_Mo_act 43 = .ok (.iastore, 1) := by decide +kernel
theorem d_Mo_act_44 : decode b_Mo_act 44 = .ok (.aload_n 0, 1) := by decide +kernel
theorem d_Mo_act_45 : decode b_Mo_act 45 = .ok (.dup, 1) := by decide +kernel
theorem d_Mo_act_46 : decode b_Mo_act 46 = .ok (.getfield 112, 3) := by decide +kernel
theorem d_Mo_act_49 : decode b_Mo_act 49 = .ok (.iconst 1, 1) := by decide +kernel
theorem d_Mo_act_50 : decode b_Mo_act 50 = .ok (.iadd, 1) := by decide +kernel
theorem d_Mo_act_51 : decode b_Mo_act 51 = .ok (.putfield 112, 3) := by decide +kernel
theorem d_Mo_act_54 : decode b_Mo_act 54 = .ok (.aload_n 0, 1) := by decide +kernel
theorem d_Mo_act_55 : decode b_Mo_act 55 = .ok (.invokevirtual 95, 3) := by decide +kernel
theorem d_Mo_act_58 : decode b_Mo_act 58 = .ok (.aload_n 0, 1) := by decide +kernel
theorem d_Mo_act_59 : decode b_Mo_act 59 = .ok (.getfield 112, 3) := by decide +kernel
theorem d_Mo_act_62 : decode b_Mo_act 62 = .ok (.iconst 1, 1) := by decide +kernel
theorem d_Mo_act_63 : decode b_Mo_act 63 = .ok (.isub, 1) := by decide +kernel
theorem d_Mo_act_64 : decode b_Mo_act 64 = .ok (.ireturn, 1) := by decide +kernel
theorem d_Mo_outcome_0 : decode b_Mo_outcome 0 = .ok (.aload_n 0, 1) := by decide +kernel
theorem d_Mo_outcome_1 : decode b_Mo_outcome 1 = .ok (.iload_n 1, 1) := by decide +kernel
theorem d_Mo_outcome_2 : decode b_Mo_outcome 2 = .ok (.invokevirtual 130, 3) := by decide +kernel
theorem d_Mo_outcome_5 : decode b_Mo_outcome 5 = .ok (.ifCond .ne 6, 3) := by decide +kernel
theorem d_Mo_outcome_8 : decode b_Mo_outcome 8 = .ok (.bipush (-2), 2) := by decide +kernel
theorem d_Mo_outcome_10 : decode b_Mo_outcome 10 = .ok (.ireturn, 1) := by decide +kernel
theorem d_Mo_outcome_11 : decode b_Mo_outcome 11 = .ok (.aload_n 0, 1) := by decide +kernel
theorem d_Mo_outcome_12 : decode b_Mo_outcome 12 = .ok (.getfield 13, 3) := by decide +kernel
theorem d_Mo_outcome_15 : decode b_Mo_outcome 15 = .ok (.iload_n 1, 1) := by decide +kernel
theorem d_Mo_outcome_16 : decode b_Mo_outcome 16 = .ok (.iaload, 1) := by decide +kernel
theorem d_Mo_outcome_17 : decode b_Mo_outcome 17 = .ok (.iconst 3, 1) := by decide +kernel
theorem d_Mo_outcome_18 : decode b_Mo_outcome 18 = .ok (.if_icmp .ne 6, 3) := by decide +kernel
theorem d_Mo_outcome_21 : decode b_Mo_outcome 21 = .ok (.bipush (-3), 2) := by decide +kernel
theorem d_Mo_outcome_23 : decode b_Mo_outcome 23 = .ok (.ireturn, 1) := by decide +kernel
theorem d_Mo_outcome_24 : decode b_Mo_outcome 24 = .ok (.aload_n 0, 1) := by decide +kernel
theorem d_Mo_outcome_25 : decode b_Mo_outcome 25 = .ok (.getfield 22, 3) := by decide +kernel
theorem d_Mo_outcome_28 : decode b_Mo_outcome 28 = .ok (.iconst 3, 1) := by decide +kernel
theorem d_Mo_outcome_29 : decode b_Mo_outcome 29 = .ok (.iload_n 1, 1) := by decide +kernel
theorem d_Mo_outcome_30 : decode b_Mo_outcome 30 = .ok (.imul, 1) := by decide +kernel
theorem d_Mo_outcome_31 : decode b_Mo_outcome 31 = .ok (.aload_n 0, 1) := by decide +kernel
theorem d_Mo_outcome_32 : decode b_Mo_outcome 32 = .ok (.getfield 13, 3) := by decide +kernel
theorem d_Mo_outcome_35 : decode b_Mo_outcome 35 = .ok (.iload_n 1, 1) := by decide +kernel
theorem d_Mo_outcome_36 : decode b_Mo_outcome 36 = .ok (.iaload, 1) := by decide +kernel
theorem d_Mo_outcome_37 : decode b_Mo_outcome 37 = .ok (.iadd, 1) := by decide +kernel
theorem d_Mo_outcome_38 : decode b_Mo_outcome 38 = .ok (.iconst 0, 1) := by decide +kernel
theorem d_Mo_outcome_39 : decode b_Mo_outcome 39 = .ok (.iastore, 1) := by decide +kernel
theorem d_Mo_outcome_40 : decode b_Mo_outcome 40 = .ok (.aload_n 0, 1) := by decide +kernel
theorem d_Mo_outcome_41 : decode b_Mo_outcome 41 = .ok (.getfield 13, 3) := by decide +kernel
theorem d_Mo_outcome_44 : decode b_Mo_outcome 44 = .ok (.iload_n 1, 1) := by decide +kernel
theorem d_Mo_outcome_45 : decode b_Mo_outcome 45 = .ok (.dup2, 1) := by decide +kernel
theorem d_Mo_outcome_46 : decode b_Mo_outcome 46 = .ok (.iaload, 1) := by decide +kernel
theorem d_Mo_outcome_47 : decode b_Mo_outcome 47 = .ok (.iconst 1, 1) := by decide +kernel
theorem d_Mo_outcome_48 : decode b_Mo_outcome 48 = .ok (.iadd, 1) := by decide +kernel
theorem d_Mo_outcome_49 : decode b_Mo_outcome 49 = .ok (.iastore, 1) := by decide +kernel
theorem d_Mo_outcome_50 : decode b_Mo_outcome 50 = .ok (.aload_n 0, 1) := by decide +kernel
theorem d_Mo_outcome_51 : decode b_Mo_outcome 51 = .ok (.invokevirtual 95, 3) := by decide +kernel
theorem d_Mo_outcome_54 : decode b_Mo_outcome 54 = .ok (.aload_n 0, 1) := by decide +kernel
theorem d_Mo_outcome_55 : decode b_Mo_outcome 55 = .ok (.getfield 13, 3) := by decide +kernel
theorem d_Mo_outcome_58 : decode b_Mo_outcome 58 = .ok (.iload_n 1, 1) := by decide +kernel
theorem d_Mo_outcome_59 : decode b_Mo_outcome 59 = .ok (.iaload, 1) := by decide +kernel
theorem d_Mo_outcome_60 : decode b_Mo_outcome 60 = .ok (.iconst 1, 1) := by decide +kernel
theorem d_Mo_outcome_61 : decode b_Mo_outcome 61 = .ok (.isub, 1) := by decide +kernel
theorem d_Mo_outcome_62 : decode b_Mo_outcome 62 = .ok (.ireturn, 1) := by decide +kernel
theorem d_Mo_isAct_0 : decode b_Mo_isAct 0 = .ok (.iload_n 1, 1) := by decide +kernel
theorem d_Mo_isAct_1 : decode b_Mo_isAct 1 = .ok (.iconst 0, 1) := by decide +kernel
theorem d_Mo_isAct_2 : decode b_Mo_isAct 2 = .ok (.aload_n 0, 1) := by decide +kernel
theorem d_Mo_isAct_3 : decode b_Mo_isAct 3 = .ok (.getfield 112, 3) := by decide +kernel
theorem d_Mo_isAct_6 : decode b_Mo_isAct 6 = .ok (.iconst 1, 1) := by decide +kernel
theorem d_Mo_isAct_7 : decode b_Mo_isAct 7 = .ok (.isub, 1) := by decide +kernel
theorem d_Mo_isAct_8 : decode b_Mo_isAct 8 = .ok (.invokestatic 118, 3) := by decide +kernel
theorem d_Mo_isAct_11 : decode b_Mo_isAct 11 = .ok (.ireturn, 1) := by decide +kernel
theorem d_Mo_when_0 : decode b_Mo_when 0 = .ok (.aload_n 0, 1) := by decide +kernel
theorem d_Mo_when_1 : decode b_Mo_when 1 = .ok (.iload_n 1, 1) := by decide +kernel
theorem d_Mo_when_2 : decode b_Mo_when 2 = .ok (.invokevirtual 130, 3) := by decide +kernel
theorem d_Mo_when_5 : decode b_Mo_when 5 = .ok (.ifCond .eq 26, 3) := by decide +kernel
theorem d_Mo_when_8 : decode b_Mo_when 8 = .ok (.aload_n 0, 1) := by decide +kernel
theorem d_Mo_when_9 : decode b_Mo_when 9 = .ok (.iload_n 2, 1) := by decide +kernel
theorem d_Mo_when_10 : decode b_Mo_when 10 = .ok (.iload_n 3, 1) := by decide +kernel
theorem d_Mo_when_11 : decode b_Mo_when 11 = .ok (.iload 4, 2) := by decide +kernel
theorem d_Mo_when_13 : decode b_Mo_when 13 = .ok (.invokevirtual 136, 3) := by decide +kernel
theorem d_Mo_when_16 : decode b_Mo_when 16 = .ok (.ifCond .eq 15, 3) := by decide +kernel
theorem d_Mo_when_19 : decode b_Mo_when 19 = .ok (.aload_n 0, 1) := by decide +kernel
theorem d_Mo_when_20 : decode b_Mo_when 20 = .ok (.iload_n 1, 1) := by decide +kernel
theorem d_Mo_when_21 : decode b_Mo_when 21 = .ok (.iload_n 2, 1) := by decide +kernel
theorem d_Mo_when_22 : decode b_Mo_when 22 = .ok (.iload_n 3, 1) := by decide +kernel
theorem d_Mo_when_23 : decode b_Mo_when 23 = .ok (.iload 4, 2) := by decide +kernel
theorem d_Mo_when_25 : decode b_Mo_when 25 = .ok (.invokevirtual 139, 3) := by decide +kernel
theorem d_Mo_when_28 : decode b_Mo_when 28 = .ok (.goto 5, 3) := by decide +kernel
theorem d_Mo_when_31 : decode b_Mo_when 31 = .ok (.bipush (-2), 2) := by decide +kernel
theorem d_Mo_when_33 : decode b_Mo_when 33 = .ok (.ireturn, 1) := by decide +kernel
theorem d_Mo_isCondition_0 : decode b_Mo_isCondition 0 = .ok (.aload_n 0, 1) := by decide +kernel
theorem d_Mo_isCondition_1 : decode b_Mo_isCondition 1 = .ok (.iload_n 1, 1) := by decide +kernel
theorem d_Mo_isCondition_2 : decode b_Mo_isCondition 2 = .ok (.invokevirtual 133, 3) := by decide +kernel
theorem d_Mo_isCondition_5 : decode b_Mo_isCondition 5 = .ok (.ifCond .eq 41, 3) := by decide +kernel
theorem d_Mo_isCondition_8 : decode b_Mo_isCondition 8 = .ok (.iload_n 2, 1) := by decide +kernel
theorem d_Mo_isCondition_9 : decode b_Mo_isCondition 9 = .ok (.iconst 0, 1) := by decide +kernel
theorem d_Mo_isCondition_10 : decode b_Mo_isCondition 10 = .ok (.iconst 3, 1) := by decide +kernel
theorem d_Mo_isCondition_11 : decode b_Mo_isCondition 11 = .ok (.invokestatic 118, 3) := by decide +kernel
theorem d_Mo_isCondition_14 : decode b_Mo_isCondition 14 = .ok (.ifCond .eq 32, 3) := by decide +kernel
theorem d_Mo_isCondition_17 : decode b_Mo_isCondition 17 = .ok (.iload_n 2, 1) := by decide +kernel
theorem d_Mo_isCondition_18 : decode b_Mo_isCondition 18 = .ok (.iconst 2, 1) := by decide +kernel
theorem d_Mo_isCondition_19 : decode b_Mo_isCondition 19 = .ok (.if_icmp .ne 14, 3) := by decide +kernel
theorem d_Mo_isCondition_22 : decode b_Mo_isCondition 22 = .ok (.aload_n 0, 1) := by decide +kernel
theorem d_Mo_isCondition_23 : decode b_Mo_isCondition 23 = .ok (.iload_n 3, 1) := by decide +kernel
theorem d_Mo_isCondition_24 : decode b_Mo_isCondition 24 = .ok (.invokevirtual 133, 3) := by decide +kernel
theorem d_Mo_isCondition_27 : decode b_Mo_isCondition 27 = .ok (.ifCond .eq 19, 3) := by decide +kernel
theorem d_Mo_isCondition_30 : decode b_Mo_isCondition 30 = .ok (.goto 12, 3) := by decide +kernel
theorem d_Mo_isCondition_33 : decode b_Mo_isCondition 33 = .ok (.iload_n 3, 1) := by decide +kernel
theorem d_Mo_isCondition_34 : decode b_Mo_isCondition 34 = .ok (.iconst 0, 1) := by decide +kernel
theorem d_Mo_isCondition_35 : decode b_Mo_isCondition 35 = .ok (.iconst 3, 1) := by decide +kernel
theorem d_Mo_isCondition_36 : decode b_Mo_isCondition 36 = .ok (.invokestatic 118, 3) := by decide +kernel
theorem d_Mo_isCondition_39 : decode b_Mo_isCondition 39 = .ok (.ifCond .eq 7, 3) := by decide +kernel
theorem d_Mo_isCondition_42 : decode b_Mo_isCondition 42 = .ok (.iconst 1, 1) := by decide +kernel
theorem d_Mo_isCondition_43 : decode b_Mo_isCondition 43 = .ok (.goto 4, 3) := by decide +kernel
theorem d_Mo_isCondition_46 : decode b_Mo_isCondition 46 = .ok (.iconst 0, 1) := by decide +kernel
theorem d_Mo_isCondition_47 : decode b_Mo_isCondition 47 = .ok (.ireturn, 1) := by decide +kernel
theorem d_Mo_isThing_0 : decode b_Mo_isThing 0 = .ok (.iload_n 1, 1) := by decide +kernel
theorem d_Mo_isThing_1 : decode b_Mo_isThing 1 = .ok (.iconst 0, 1) := by decide +kernel
theorem d_Mo_isThing_2 : decode b_Mo_isThing 2 = .ok (.aload_n 0, 1) := by decide +kernel
theorem d_Mo_isThing_3 : decode b_Mo_isThing 3 = .ok (.getfield 105, 3) := by decide +kernel
theorem d_Mo_isThing_6 : decode b_Mo_isThing 6 = .ok (.iconst 1, 1) := by decide +kernel
theorem d_Mo_isThing_7 : decode b_Mo_isThing 7 = .ok (.isub, 1) := by decide +kernel
theorem d_Mo_isThing_8 : decode b_Mo_isThing 8 = .ok (.invokestatic 118, 3) := by decide +kernel
theorem d_Mo_isThing_11 : decode b_Mo_isThing 11 = .ok (.ireturn, 1) := by decide +kernel
theorem d_Mo_more_0 : decode b_Mo_more 0 = .ok (.aload_n 0, 1) := by decide +kernel
theorem d_Mo_more_1 : decode b_Mo_more 1 = .ok (.getfield 16, 3) := by decide +kernel
theorem d_Mo_more_4 : decode b_Mo_more 4 = .ok (.iload_n 1, 1) := by decide +kernel
theorem d_Mo_more_5 : decode b_Mo_more 5 = .ok (.iaload, 1) := by decide +kernel
theorem d_Mo_more_6 : decode b_Mo_more 6 = .ok (.iconst 4, 1) := by decide +kernel
theorem d_Mo_more_7 : decode b_Mo_more 7 = .ok (.if_icmp .ne 6, 3) := by decide +kernel
theorem d_Mo_more_10 : decode b_Mo_more 10 = .ok (.bipush (-3), 2) := by decide +kernel
theorem d_Mo_more_12 : decode b_Mo_more 12 = .ok (.ireturn, 1) := by decide +kernel
theorem d_Mo_more_13 : decode b_Mo_more 13 = .ok (.bipush 12, 2) := by decide +kernel
theorem d_Mo_more_15 : decode b_Mo_more 15 = .ok (.iload_n 1, 1) := by decide +kernel
theorem d_Mo_more_16 : decode b_Mo_more 16 = .ok (.imul, 1) := by decide +kernel
theorem d_Mo_more_17 : decode b_Mo_more 17 = .ok (.iconst 3, 1) := by decide +kernel
theorem d_Mo_more_18 : decode b_Mo_more 18 = .ok (.aload_n 0, 1) := by decide +kernel
theorem d_Mo_more_19 : decode b_Mo_more 19 = .ok (.getfield 16, 3) := by decide +kernel
theorem d_Mo_more_22 : decode b_Mo_more 22 = .ok (.iload_n 1, 1) := by decide +kernel
theorem d_Mo_more_23 : decode b_Mo_more 23 = .ok (.iaload, 1) := by decide +kernel
theorem d_Mo_more_24 : decode b_Mo_more 24 = .ok (.imul, 1) := by decide +kernel
theorem d_Mo_more_25 : decode b_Mo_more 25 = .ok (.iadd, 1) := by decide +kernel
theorem d_Mo_more_26 : decode b_Mo_more 26 = .ok (.istore 5, 2) := by decide +kernel
theorem d_Mo_more_28 : decode b_Mo_more 28 = .ok (.aload_n 0, 1) := by decide +kernel
theorem d_Mo_more_29 : decode b_Mo_more 29 = .ok (.getfield 19, 3) := by decide +kernel
theorem d_Mo_more_32 : decode b_Mo_more 32 = .ok (.iload 5, 2) := by decide +kernel
theorem d_Mo_more_34 : decode b_Mo_more 34 = .ok (.iload_n 2, 1) := by decide +kernel
theorem d_Mo_more_35 : decode b_Mo_more 35 = .ok (.iastore, 1) := by decide +kernel
theorem d_Mo_more_36 : decode b_Mo_more 36 = .ok (.aload_n 0, 1) := by decide +kernel
theorem d_Mo_more_37 : decode b_Mo_more 37 = .ok (.getfield 19, 3) := by decide +kernel
theorem d_Mo_more_40 : decode b_Mo_more 40 = .ok (.iload 5, 2) := by decide +kernel
theorem d_Mo_more_42 : decode b_Mo_more 42 = .ok (.iconst 1, 1) := by decide +kernel
theorem d_Mo_more_43 : decode b_Mo_more 43 = .ok (.iadd, 1) := by decide +kernel
theorem d_Mo_more_44 : decode b_Mo_more 44 = .ok (.iload_n 3, 1) := by decide +kernel
theorem d_Mo_more_45 : decode b_Mo_more 45 = .ok (.iastore, 1) := by decide +kernel
theorem d_Mo_more_46 : decode b_Mo_more 46 = .ok (.aload_n 0, 1) := by decide +kernel
theorem d_Mo_more_47 : decode b_Mo_more 47 = .ok (.getfield 19, 3) := by decide +kernel
theorem d_Mo_more_50 : decode b_Mo_more 50 = .ok (.iload 5, 2) := by decide +kernel
theorem d_Mo_more_52 : decode b_Mo_more 52 = .ok (.iconst 2, 1) := by decide +kernel
theorem d_Mo_more_53 : decode b_Mo_more 53 = .ok (.iadd, 1) := by decide +kernel
theorem d_Mo_more_54 : decode b_Mo_more 54 = .ok (.iload 4, 2) := by decide +kernel
theorem d_Mo_more_56 : decode b_Mo_more 56 = .ok (.iastore, 1) := by decide +kernel
theorem d_Mo_more_57 : decode b_Mo_more 57 = .ok (.aload_n 0, 1) := by decide +kernel
theorem d_Mo_more_58 : decode b_Mo_more 58 = .ok (.getfield 16, 3) := by decide +kernel
theorem d_Mo_more_61 : decode b_Mo_more 61 = .ok (.iload_n 1, 1) := by decide +kernel
theorem d_Mo_more_62 : decode b_Mo_more 62 = .ok (.dup2, 1) := by decide +kernel
theorem d_Mo_more_63 : decode b_Mo_more 63 = .ok (.iaload, 1) := by decide +kernel
theorem d_Mo_more_64 : decode b_Mo_more 64 = .ok (.iconst 1, 1) := by decide +kernel
theorem d_Mo_more_65 : decode b_Mo_more 65 = .ok (.iadd, 1) := by decide +kernel
theorem d_Mo_more_66 : decode b_Mo_more 66 = .ok (.iastore, 1) := by decide +kernel
theorem d_Mo_more_67 : decode b_Mo_more 67 = .ok (.aload_n 0, 1) := by decide +kernel
theorem d_Mo_more_68 : decode b_Mo_more 68 = .ok (.invokevirtual 95, 3) := by decide +kernel
theorem d_Mo_more_71 : decode b_Mo_more 71 = .ok (.aload_n 0, 1) := by decide +kernel
theorem d_Mo_more_72 : decode b_Mo_more 72 = .ok (.getfield 16, 3) := by decide +kernel
theorem d_Mo_more_75 : decode b_Mo_more 75 = .ok (.iload_n 1, 1) := by decide +kernel
theorem d_Mo_more_76 : decode b_Mo_more 76 = .ok (.iaload, 1) := by decide +kernel
theorem d_Mo_more_77 : decode b_Mo_more 77 = .ok (.ireturn, 1) := by decide +kernel
theorem d_Mo_aim_0 : decode b_Mo_aim 0 = .ok (.aload_n 0, 1) := by decide +kernel
theorem d_Mo_aim_1 : decode b_Mo_aim 1 = .ok (.iload_n 1, 1) := by decide +kernel
theorem d_Mo_aim_2 : decode b_Mo_aim 2 = .ok (.iload_n 2, 1) := by decide +kernel
theorem d_Mo_aim_3 : decode b_Mo_aim 3 = .ok (.iload_n 3, 1) := by decide +kernel
theorem d_Mo_aim_4 : decode b_Mo_aim 4 = .ok (.invokevirtual 136, 3) := by decide +kernel
theorem d_Mo_aim_7 : decode b_Mo_aim 7 = .ok (.ifCond .eq 15, 3) := by decide +kernel
theorem d_Mo_aim_10 : decode b_Mo_aim 10 = .ok (.aload_n 0, 1) := by decide +kernel
theorem d_Mo_aim_11 : decode b_Mo_aim 11 = .ok (.bipush 12, 2) := by decide +kernel
theorem d_Mo_aim_13 : decode b_Mo_aim 13 = .ok (.iload_n 1, 1) := by decide +kernel
theorem d_Mo_aim_14 : decode b_Mo_aim 14 = .ok (.iload_n 2, 1) := by decide +kernel
theorem d_Mo_aim_15 : decode b_Mo_aim 15 = .ok (.iload_n 3, 1) := by decide +kernel
theorem d_Mo_aim_16 : decode b_Mo_aim 16 = .ok (.invokevirtual 139, 3) := by decide +kernel
theorem d_Mo_aim_19 : decode b_Mo_aim 19 = .ok (.goto 5, 3) := by decide +kernel
theorem d_Mo_aim_22 : decode b_Mo_aim 22 = .ok (.bipush (-2), 2) := by decide +kernel
theorem d_Mo_aim_24 : decode b_Mo_aim 24 = .ok (.ireturn, 1) := by decide +kernel
theorem d_Mo_aimless_0 : decode b_Mo_aimless 0 = .ok (.aload_n 0, 1) := by decide +kernel
theorem d_Mo_aimless_1 : decode b_Mo_aimless 1 = .ok (.getfield 16, 3) := by decide +kernel
theorem d_Mo_aimless_4 : decode b_Mo_aimless 4 = .ok (.bipush 12, 2) := by decide +kernel
theorem d_Mo_aimless_6 : decode b_Mo_aimless 6 = .ok (.iaload, 1) := by decide +kernel
theorem d_Mo_aimless_7 : decode b_Mo_aimless 7 = .ok (.istore_n 1, 1) := by decide +kernel
theorem d_Mo_aimless_8 : decode b_Mo_aimless 8 = .ok (.aload_n 0, 1) := by decide +kernel
theorem d_Mo_aimless_9 : decode b_Mo_aimless 9 = .ok (.getfield 16, 3) := by decide +kernel
theorem d_Mo_aimless_12 : decode b_Mo_aimless 12 = .ok (.bipush 12, 2) := by decide +kernel
theorem d_Mo_aimless_14 : decode b_Mo_aimless 14 = .ok (.iconst 0, 1) := by decide +kernel
theorem d_Mo_aimless_15 : decode b_Mo_aimless 15 = .ok (.iastore, 1) := by decide +kernel
theorem d_Mo_aimless_16 : decode b_Mo_aimless 16 = .ok (.aload_n 0, 1) := by decide +kernel
theorem d_Mo_aimless_17 : decode b_Mo_aimless 17 = .ok (.invokevirtual 95, 3) := by decide +kernel
theorem d_Mo_aimless_20 : decode b_Mo_aimless 20 = .ok (.iload_n 1, 1) := by decide +kernel
theorem d_Mo_aimless_21 : decode b_Mo_aimless 21 = .ok (.ireturn, 1) := by decide +kernel
theorem d_Mo_effect_0 : decode b_Mo_effect 0 = .ok (.aload_n 0, 1) := by decide +kernel
theorem d_Mo_effect_1 : decode b_Mo_effect 1 = .ok (.iload_n 1, 1) := by decide +kernel
theorem d_Mo_effect_2 : decode b_Mo_effect 2 = .ok (.invokevirtual 130, 3) := by decide +kernel
theorem d_Mo_effect_5 : decode b_Mo_effect 5 = .ok (.ifCond .eq 90, 3) := by decide +kernel
theorem d_Mo_effect_8 : decode b_Mo_effect 8 = .ok (.iload_n 2, 1) := by decide +kernel
theorem d_Mo_effect_9 : decode b_Mo_effect 9 = .ok (.iconst 0, 1) := by decide +kernel
theorem d_Mo_effect_10 : decode b_Mo_effect 10 = .ok (.aload_n 0, 1) := by decide +kernel
theorem d_Mo_effect_11 : decode b_Mo_effect 11 = .ok (.getfield 13, 3) := by decide +kernel
theorem d_Mo_effect_14 : decode b_Mo_effect 14 = .ok (.iload_n 1, 1) := by decide +kernel
theorem d_Mo_effect_15 : decode b_Mo_effect 15 = .ok (.iaload, 1) := by decide +kernel
theorem d_Mo_effect_16 : decode b_Mo_effect 16 = .ok (.iconst 1, 1) := by decide +kernel
theorem d_Mo_effect_17 : decode b_Mo_effect 17 = .ok (.isub, 1) := by decide +kernel
theorem d_Mo_effect_18 : decode b_Mo_effect 18 = .ok (.invokestatic 118, 3) := by decide +kernel
theorem d_Mo_effect_21 : decode b_Mo_effect 21 = .ok (.ifCond .eq 74, 3) := by decide +kernel
theorem d_Mo_effect_24 : decode b_Mo_effect 24 = .ok (.aload_n 0, 1) := by decide +kernel
theorem d_Mo_effect_25 : decode b_Mo_effect 25 = .ok (.iload_n 3, 1) := by decide +kernel
theorem d_Mo_effect_26 : decode b_Mo_effect 26 = .ok (.invokevirtual 133, 3) := by decide +kernel
theorem d_Mo_effect_29 : decode b_Mo_effect 29 = .ok (.ifCond .eq 66, 3) := by decide +kernel
theorem d_Mo_effect_32 : decode b_Mo_effect 32 = .ok (.iload 4, 2) := by decide +kernel
theorem d_Mo_effect_34 : decode b_Mo_effect 34 = .ok (.iconst 0, 1) := by decide +kernel
theorem d_Mo_effect_35 : decode b_Mo_effect 35 = .ok (.iconst 2, 1) := by decide +kernel
theorem d_Mo_effect_36 : decode b_Mo_effect 36 = .ok (.invokestatic 118, 3) := by decide +kernel
theorem d_Mo_effect_39 : decode b_Mo_effect 39 = .ok (.ifCond .eq 56, 3) := by decide +kernel
theorem d_Mo_effect_42 : decode b_Mo_effect 42 = .ok (.iload 4, 2) := by decide +kernel
theorem d_Mo_effect_44 : decode b_Mo_effect 44 = .ok (.ifCond .ne 23, 3) := by decide +kernel
theorem d_Mo_effect_47 : decode b_Mo_effect 47 = .ok (.iload 5, 2) := by decide +kernel
theorem d_Mo_effect_49 : decode b_Mo_effect 49 = .ok (.iconst 0, 1) := by decide +kernel
theorem d_Mo_effect_50 : decode b_Mo_effect 50 = .ok (.aload_n 0, 1) := by decide +kernel
theorem d_Mo_effect_51 : decode b_Mo_effect 51 = .ok (.getfield 7, 3) := by decide +kernel
theorem d_Mo_effect_54 : decode b_Mo_effect 54 = .ok (.iload_n 3, 1) := by decide +kernel
theorem d_Mo_effect_55 : decode b_Mo_effect 55 = .ok (.iaload, 1) := by decide +kernel
theorem d_Mo_effect_56 : decode b_Mo_effect 56 = .ok (.iconst 1, 1) := by decide +kernel
theorem d_Mo_effect_57 : decode b_Mo_effect 57 = .ok (.isub, 1) := by decide +kernel
theorem d_Mo_effect_58 : decode b_Mo_effect 58 = .ok (.invokestatic 118, 3) := by decide +kernel
theorem d_Mo_effect_61 : decode b_Mo_effect 61 = .ok (.ifCond .ne 37, 3) := by decide +kernel
theorem d_Mo_effect_64 : decode b_Mo_effect 64 = .ok (.goto 31, 3) := by decide +kernel
theorem d_Mo_effect_67 : decode b_Mo_effect 67 = .ok (.iload 4, 2) := by decide +kernel
theorem d_Mo_effect_69 : decode b_Mo_effect 69 = .ok (.iconst 1, 1) := by decide +kernel
theorem d_Mo_effect_70 : decode b_Mo_effect 70 = .ok (.if_icmp .ne 15, 3) := by decide +kernel
theorem d_Mo_effect_73 : decode b_Mo_effect 73 = .ok (.aload_n 0, 1) := by decide +kernel
theorem d_Mo_effect_74 : decode b_Mo_effect 74 = .ok (.iload 5, 2) := by decide +kernel
theorem d_Mo_effect_76 : decode b_Mo_effect 76 = .ok (.invokevirtual 133, 3) := by decide +kernel
theorem d_Mo_effect_79 : decode b_Mo_effect 79 = .ok (.ifCond .ne 19, 3) := by decide +kernel
theorem d_Mo_effect_82 : decode b_Mo_effect 82 = .ok (.goto 13, 3) := by decide +kernel
theorem d_Mo_effect_85 : decode b_Mo_effect 85 = .ok (.iload 5, 2) := by decide +kernel
theorem d_Mo_effect_87 : decode b_Mo_effect 87 = .ok (.iconst 0, 1) := by decide +kernel
theorem d_Mo_effect_88 : decode b_Mo_effect 88 = .ok (.iconst 3, 1) := by decide +kernel
theorem d_Mo_effect_89 : decode b_Mo_effect 89 = .ok (.invokestatic 118, 3) := by decide +kernel
theorem d_Mo_effect_92 : decode b_Mo_effect 92 = .ok (.ifCond .ne 6, 3) := by decide +kernel
theorem d_Mo_effect_95 : decode b_Mo_effect 95 = .ok (.bipush (-2), 2) := by decide +kernel
theorem d_Mo_effect_97 : decode b_Mo_effect 97 = .ok (.ireturn, 1) := by decide +kernel
theorem d_Mo_effect_98 : decode b_Mo_effect 98 = .ok (.iconst 3, 1) := by decide +kernel
theorem d_Mo_effect_99 : decode b_Mo_effect 99 = .ok (.iload_n 1, 1) := by decide +kernel
theorem d_Mo_effect_100 : decode b_Mo_effect 100 = .ok (.imul, 1) := by decide +kernel
theorem d_Mo_effect_101 : decode b_Mo_effect 101 = .ok (.iload_n 2, 1) := by decide +kernel
theorem d_Mo_effect_102 : decode b_Mo_effect 102 = .ok (.iadd, 1) := by decide +kernel
theorem d_Mo_effect_103 : decode b_Mo_effect 103 = .ok (.istore 6, 2) := by decide +kernel
theorem d_Mo_effect_105 : decode b_Mo_effect 105 = .ok (.aload_n 0, 1) := by decide +kernel
theorem d_Mo_effect_106 : decode b_Mo_effect 106 = .ok (.getfield 22, 3) := by decide +kernel
theorem d_Mo_effect_109 : decode b_Mo_effect 109 = .ok (.iload 6, 2) := by decide +kernel
theorem d_Mo_effect_111 : decode b_Mo_effect 111 = .ok (.iaload, 1) := by decide +kernel
theorem d_Mo_effect_112 : decode b_Mo_effect 112 = .ok (.iconst 4, 1) := by decide +kernel
theorem d_Mo_effect_113 : decode b_Mo_effect 113 = .ok (.if_icmp .ne 6, 3) := by decide +kernel
theorem d_Mo_effect_116 : decode b_Mo_effect 116 = .ok (.bipush (-3), 2) := by decide +kernel
theorem d_Mo_effect_118 : decode b_Mo_effect 118 = .ok (.ireturn, 1) := by decide +kernel
theorem d_Mo_effect_119 : decode b_Mo_effect 119 = .ok (.bipush 12, 2) := by decide +kernel
theorem d_Mo_effect_121 : decode b_Mo_effect 121 = .ok (.iload 6, 2) := by decide +kernel
theorem d_Mo_effect_123 : decode b_Mo_effect 123 = .ok (.imul, 1) := by decide +kernel
theorem d_Mo_effect_124 : decode b_Mo_effect 124 = .ok (.iconst 3, 1) := by decide +kernel
theorem d_Mo_effect_125 : decode b_Mo_effect 125 = .ok (.aload_n 0, 1) := by decide +kernel
theorem d_Mo_effect_126 : decode b_Mo_effect 126 = .ok (.getfield 22, 3) := by decide +kernel
theorem d_Mo_effect_129 : decode b_Mo_effect 129 = .ok (.iload 6, 2) := by decide +kernel
theorem d_Mo_effect_131 : decode b_Mo_effect 131 = .ok (.iaload, 1) := by decide +kernel
theorem d_Mo_effect_132 : decode b_Mo_effect 132 = .ok (.imul, 1) := by decide +kernel
theorem d_Mo_effect_133 : decode b_Mo_effect 133 = .ok (.iadd, 1) := by decide +kernel
theorem d_Mo_effect_134 : decode b_Mo_effect 134 = .ok (.istore 7, 2) := by decide +kernel
theorem d_Mo_effect_136 : decode b_Mo_effect 136 = .ok (.aload_n 0, 1) := by decide +kernel
theorem d_Mo_effect_137 : decode b_Mo_effect 137 = .ok (.getfield 25, 3) := by decide +kernel
theorem d_Mo_effect_140 : decode b_Mo_effect 140 = .ok (.iload 7, 2) := by decide +kernel
theorem d_Mo_effect_142 : decode b_Mo_effect 142 = .ok (.iload_n 3, 1) := by decide +kernel
theorem d_Mo_effect_143 : decode b_Mo_effect 143 = .ok (.iastore, 1) := by decide +kernel
theorem d_Mo_effect_144 : decode b_Mo_effect 144 = .ok (.aload_n 0, 1) := by decide +kernel
theorem d_Mo_effect_145 : decode b_Mo_effect 145 = .ok (.getfield 25, 3) := by decide +kernel
theorem d_Mo_effect_148 : decode b_Mo_effect 148 = .ok (.iload 7, 2) := by decide +kernel
theorem d_Mo_effect_150 : decode b_Mo_effect 150 = .ok (.iconst 1, 1) := by decide +kernel
theorem d_Mo_effect_151 : decode b_Mo_effect 151 = .ok (.iadd, 1) := by decide +kernel
theorem d_Mo_effect_152 : decode b_Mo_effect 152 = .ok (.iload 4, 2) := by decide +kernel
theorem d_Mo_effect_154 : decode b_Mo_effect 154 = .ok (.iastore, 1) := by decide +kernel
theorem d_Mo_effect_155 : decode b_Mo_effect 155 = .ok (.aload_n 0, 1) := by decide +kernel
theorem d_Mo_effect_156 : decode b_Mo_effect 156 = .ok (.getfield 25, 3) := by decide +kernel
theorem d_Mo_effect_159 : decode b_Mo_effect 159 = .ok (.iload 7, 2) := by decide +kernel
theorem d_Mo_effect_161 : decode b_Mo_effect 161 = .ok (.iconst 2, 1) := by decide +kernel
theorem d_Mo_effect_162 : decode b_Mo_effect 162 = .ok (.iadd, 1) := by decide +kernel
theorem d_Mo_effect_163 : decode b_Mo_effect 163 = .ok (.iload 5, 2) := by decide +kernel
theorem d_Mo_effect_165 : decode b_Mo_effect 165 = .ok (.iastore, 1) := by decide +kernel
theorem d_Mo_effect_166 : decode b_Mo_effect 166 = .ok (.aload_n 0, 1) := by decide +kernel
theorem d_Mo_effect_167 : decode b_Mo_effect 167 = .ok (.getfield 22, 3) := by decide +kernel
theorem d_Mo_effect_170 : decode b_Mo_effect 170 = .ok (.iload 6, 2) := by decide +kernel
theorem d_Mo_effect_172 : decode b_Mo_effect 172 = .ok (.dup2, 1) := by decide +kernel
theorem d_Mo_effect_173 : decode b_Mo_effect 173 = .ok (.iaload, 1) := by decide +kernel
theorem d_Mo_effect_174 : decode b_Mo_effect 174 = .ok (.iconst 1, 1) := by decide +kernel
theorem d_Mo_effect_175 : decode b_Mo_effect 175 = .ok (.iadd, 1) := by decide +kernel
theorem d_Mo_effect_176 : decode b_Mo_effect 176 = .ok (.iastore, 1) := by decide +kernel
theorem d_Mo_effect_177 : decode b_Mo_effect 177 = .ok (.aload_n 0, 1) := by decide +kernel
theorem d_Mo_effect_178 : decode b_Mo_effect 178 = .ok (.invokevirtual 95, 3) := by decide +kernel
theorem d_Mo_effect_181 : decode b_Mo_effect 181 = .ok (.aload_n 0, 1) := by decide +kernel
theorem d_Mo_effect_182 : decode b_Mo_effect 182 = .ok (.getfield 22, 3) := by decide +kernel
theorem d_Mo_effect_185 : decode b_Mo_effect 185 = .ok (.iload 6, 2) := by decide +kernel
theorem d_Mo_effect_187 : decode b_Mo_effect 187 = .ok (.iaload, 1) := by decide +kernel
theorem d_Mo_effect_188 : decode b_Mo_effect 188 = .ok (.ireturn, 1) := by decide +kernel
theorem d_Mo_unact_0 : decode b_Mo_unact 0 = .ok (.aload_n 0, 1) := by decide +kernel
theorem d_Mo_unact_1 : decode b_Mo_unact 1 = .ok (.getfield 112, 3) := by decide +kernel
theorem d_Mo_unact_4 : decode b_Mo_unact 4 = .ok (.ifCond .ne 5, 3) := by decide +kernel
theorem d_Mo_unact_7 : decode b_Mo_unact 7 = .ok (.iconst (-1), 1) := by decide +kernel
theorem d_Mo_unact_8 : decode b_Mo_unact 8 = .ok (.ireturn, 1) := by decide +kernel
theorem d_Mo_unact_9 : decode b_Mo_unact 9 = .ok (.aload_n 0, 1) := by decide +kernel
theorem d_Mo_unact_10 : decode b_Mo_unact 10 = .ok (.dup, 1) := by decide +kernel
theorem d_Mo_unact_11 : decode b_Mo_unact 11 = .ok (.getfield 112, 3) := by decide +kernel
theorem d_Mo_unact_14 : decode b_Mo_unact 14 = .ok (.iconst 1, 1) := by decide +kernel
theorem d_Mo_unact_15 : decode b_Mo_unact 15 = .ok (.isub, 1) := by decide +kernel
theorem d_Mo_unact_16 : decode b_Mo_unact 16 = .ok (.putfield 112, 3) := by decide +kernel
theorem d_Mo_unact_19 : decode b_Mo_unact 19 = .ok (.aload_n 0, 1) := by decide +kernel
theorem d_Mo_unact_20 : decode b_Mo_unact 20 = .ok (.invokevirtual 95, 3) := by decide +kernel
theorem d_Mo_unact_23 : decode b_Mo_unact 23 = .ok (.aload_n 0, 1) := by decide +kernel
theorem d_Mo_unact_24 : decode b_Mo_unact 24 = .ok (.getfield 112, 3) := by decide +kernel
theorem d_Mo_unact_27 : decode b_Mo_unact 27 = .ok (.ireturn, 1) := by decide +kernel
theorem d_Mo_cover_0 : decode b_Mo_cover 0 = .ok (.aload_n 0, 1) := by decide +kernel
theorem d_Mo_cover_1 : decode b_Mo_cover 1 = .ok (.getfield 115, 3) := by decide +kernel
theorem d_Mo_cover_4 : decode b_Mo_cover 4 = .ok (.bipush 6, 2) := by decide +kernel
theorem d_Mo_cover_6 : decode b_Mo_cover 6 = .ok (.if_icmp .ne 6, 3) := by decide +kernel
theorem d_Mo_cover_9 : decode b_Mo_cover 9 = .ok (.bipush (-3), 2) := by decide +kernel
theorem d_Mo_cover_11 : decode b_Mo_cover 11 = .ok (.ireturn, 1) := by decide +kernel
theorem d_Mo_cover_12 : decode b_Mo_cover 12 = .ok (.aload_n 0, 1) := by decide +kernel
theorem d_Mo_cover_13 : decode b_Mo_cover 13 = .ok (.getfield 16, 3) := by decide +kernel
theorem d_Mo_cover_16 : decode b_Mo_cover 16 = .ok (.bipush 13, 2) := by decide +kernel
theorem d_Mo_cover_18 : decode b_Mo_cover 18 = .ok (.aload_n 0, 1) := by decide +kernel
theorem d_Mo_cover_19 : decode b_Mo_cover 19 = .ok (.getfield 115, 3) := by decide +kernel
theorem d_Mo_cover_22 : decode b_Mo_cover 22 = .ok (.iadd, 1) := by decide +kernel
theorem d_Mo_cover_23 : decode b_Mo_cover 23 = .ok (.iconst 0, 1) := by decide +kernel
theorem d_Mo_cover_24 : decode b_Mo_cover 24 = .ok (.iastore, 1) := by decide +kernel
theorem d_Mo_cover_25 : decode b_Mo_cover 25 = .ok (.aload_n 0, 1) := by decide +kernel
theorem d_Mo_cover_26 : decode b_Mo_cover 26 = .ok (.dup, 1) := by decide +kernel
theorem d_Mo_cover_27 : decode b_Mo_cover 27 = .ok (.getfield 115, 3) := by decide +kernel
theorem d_Mo_cover_30 : decode b_Mo_cover 30 = .ok (.iconst 1, 1) := by decide +kernel
theorem d_Mo_cover_31 : decode b_Mo_cover 31 = .ok (.iadd, 1) := by decide +kernel
theorem d_Mo_cover_32 : decode b_Mo_cover 32 = .ok (.putfield 115, 3) := by decide +kernel
theorem d_Mo_cover_35 : decode b_Mo_cover 35 = .ok (.aload_n 0, 1) := by decide +kernel
theorem d_Mo_cover_36 : decode b_Mo_cover 36 = .ok (.getfield 115, 3) := by decide +kernel
theorem d_Mo_cover_39 : decode b_Mo_cover 39 = .ok (.iconst 1, 1) := by decide +kernel
theorem d_Mo_cover_40 : decode b_Mo_cover 40 = .ok (.isub, 1) := by decide +kernel
theorem d_Mo_cover_41 : decode b_Mo_cover 41 = .ok (.ireturn, 1) := by decide +kernel
theorem d_Mo_part_0 : decode b_Mo_part 0 = .ok (.iload_n 1, 1) := by decide +kernel
theorem d_Mo_part_1 : decode b_Mo_part 1 = .ok (.iconst 0, 1) := by decide +kernel
theorem d_Mo_part_2 : decode b_Mo_part 2 = .ok (.aload_n 0, 1) := by decide +kernel
theorem d_Mo_part_3 : decode b_Mo_part 3 = .ok (.getfield 115, 3) := by decide +kernel
theorem d_Mo_part_6 : decode b_Mo_part 6 = .ok (.iconst 1, 1) := by decide +kernel
theorem d_Mo_part_7 : decode b_Mo_part 7 = .ok (.isub, 1) := by decide +kernel
theorem d_Mo_part_8 : decode b_Mo_part 8 = .ok (.invokestatic 118, 3) := by decide +kernel
theorem d_Mo_part_11 : decode b_Mo_part 11 = .ok (.ifCond .eq 29, 3) := by decide +kernel
theorem d_Mo_part_14 : decode b_Mo_part 14 = .ok (.aload_n 0, 1) := by decide +kernel
theorem d_Mo_part_15 : decode b_Mo_part 15 = .ok (.iload_n 2, 1) := by decide +kernel
theorem d_Mo_part_16 : decode b_Mo_part 16 = .ok (.iload_n 3, 1) := by decide +kernel
theorem d_Mo_part_17 : decode b_Mo_part 17 = .ok (.iload 4, 2) := by decide +kernel
theorem d_Mo_part_19 : decode b_Mo_part 19 = .ok (.invokevirtual 136, 3) := by decide +kernel
theorem d_Mo_part_22 : decode b_Mo_part 22 = .ok (.ifCond .eq 18, 3) := by decide +kernel
theorem d_Mo_part_25 : decode b_Mo_part 25 = .ok (.aload_n 0, 1) := by decide +kernel
theorem d_Mo_part_26 : decode b_Mo_part 26 = .ok (.bipush 13, 2) := by decide +kernel
theorem d_Mo_part_28 : decode b_Mo_part 28 = .ok (.iload_n 1, 1) := by decide +kernel
theorem d_Mo_part_29 : decode b_Mo_part 29 = .ok (.iadd, 1) := by decide +kernel
theorem d_Mo_part_30 : decode b_Mo_part 30 = .ok (.iload_n 2, 1) := by decide +kernel
theorem d_Mo_part_31 : decode b_Mo_part 31 = .ok (.iload_n 3, 1) := by decide +kernel
theorem d_Mo_part_32 : decode b_Mo_part 32 = .ok (.iload 4, 2) := by decide +kernel
theorem d_Mo_part_34 : decode b_Mo_part 34 = .ok (.invokevirtual 139, 3) := by decide +kernel
theorem d_Mo_part_37 : decode b_Mo_part 37 = .ok (.goto 5, 3) := by decide +kernel
theorem d_Mo_part_40 : decode b_Mo_part 40 = .ok (.bipush (-2), 2) := by decide +kernel
theorem d_Mo_part_42 : decode b_Mo_part 42 = .ok (.ireturn, 1) := by decide +kernel
theorem d_Mo_bare_0 : decode b_Mo_bare 0 = .ok (.aload_n 0, 1) := by decide +kernel
theorem d_Mo_bare_1 : decode b_Mo_bare 1 = .ok (.getfield 115, 3) := by decide +kernel
theorem d_Mo_bare_4 : decode b_Mo_bare 4 = .ok (.istore_n 1, 1) := by decide +kernel
theorem d_Mo_bare_5 : decode b_Mo_bare 5 = .ok (.aload_n 0, 1) := by decide +kernel
theorem d_Mo_bare_6 : decode b_Mo_bare 6 = .ok (.iconst 0, 1) := by decide +kernel
theorem d_Mo_bare_7 : decode b_Mo_bare 7 = .ok (.putfield 115, 3) := by decide +kernel
theorem d_Mo_bare_10 : decode b_Mo_bare 10 = .ok (.iload_n 1, 1) := by decide +kernel
theorem d_Mo_bare_11 : decode b_Mo_bare 11 = .ok (.ireturn, 1) := by decide +kernel
theorem d_Mo_leads_0 : decode b_Mo_leads 0 = .ok (.aload_n 0, 1) := by decide +kernel
theorem d_Mo_leads_1 : decode b_Mo_leads 1 = .ok (.iload_n 1, 1) := by decide +kernel
theorem d_Mo_leads_2 : decode b_Mo_leads 2 = .ok (.invokevirtual 126, 3) := by decide +kernel
theorem d_Mo_leads_5 : decode b_Mo_leads 5 = .ok (.ifCond .eq 27, 3) := by decide +kernel
theorem d_Mo_leads_8 : decode b_Mo_leads 8 = .ok (.aload_n 0, 1) := by decide +kernel
theorem d_Mo_leads_9 : decode b_Mo_leads 9 = .ok (.iload_n 2, 1) := by decide +kernel
theorem d_Mo_leads_10 : decode b_Mo_leads 10 = .ok (.invokevirtual 130, 3) := by decide +kernel
theorem d_Mo_leads_13 : decode b_Mo_leads 13 = .ok (.ifCond .eq 19, 3) := by decide +kernel
theorem d_Mo_leads_16 : decode b_Mo_leads 16 = .ok (.iload_n 3, 1) := by decide +kernel
theorem d_Mo_leads_17 : decode b_Mo_leads 17 = .ok (.iconst 0, 1) := by decide +kernel
theorem d_Mo_leads_18 : decode b_Mo_leads 18 = .ok (.aload_n 0, 1) := by decide +kernel
theorem d_Mo_leads_19 : decode b_Mo_leads 19 = .ok (.getfield 13, 3) := by decide +kernel
theorem d_Mo_leads_22 : decode b_Mo_leads 22 = .ok (.iload_n 2, 1) := by decide +kernel
theorem d_Mo_leads_23 : decode b_Mo_leads 23 = .ok (.iaload, 1) := by decide +kernel
theorem d_Mo_leads_24 : decode b_Mo_leads 24 = .ok (.iconst 1, 1) := by decide +kernel
theorem d_Mo_leads_25 : decode b_Mo_leads 25 = .ok (.isub, 1) := by decide +kernel
theorem d_Mo_leads_26 : decode b_Mo_leads 26 = .ok (.invokestatic 118, 3) := by decide +kernel
theorem d_Mo_leads_29 : decode b_Mo_leads 29 = .ok (.ifCond .ne 6, 3) := by decide +kernel
theorem d_Mo_leads_32 : decode b_Mo_leads 32 = .ok (.bipush (-2), 2) := by decide +kernel
theorem d_Mo_leads_34 : decode b_Mo_leads 34 = .ok (.ireturn, 1) := by decide +kernel
theorem d_Mo_leads_35 : decode b_Mo_leads 35 = .ok (.aload_n 0, 1) := by decide +kernel
theorem d_Mo_leads_36 : decode b_Mo_leads 36 = .ok (.iload_n 1, 1) := by decide +kernel
theorem d_Mo_leads_37 : decode b_Mo_leads 37 = .ok (.invokevirtual 146, 3) := by decide +kernel
theorem d_Mo_leads_40 : decode b_Mo_leads 40 = .ok (.aload_n 0, 1) := by decide +kernel
theorem d_Mo_leads_41 : decode b_Mo_leads 41 = .ok (.iload_n 2, 1) := by decide +kernel
theorem d_Mo_leads_42 : decode b_Mo_leads 42 = .ok (.invokevirtual 150, 3) := by decide +kernel
theorem d_Mo_leads_45 : decode b_Mo_leads 45 = .ok (.ifCond .eq 15, 3) := by decide +kernel
theorem d_Mo_leads_48 : decode b_Mo_leads 48 = .ok (.aload_n 0, 1) := by decide +kernel
theorem d_Mo_leads_49 : decode b_Mo_leads 49 = .ok (.iconst 3, 1) := by decide +kernel
theorem d_Mo_leads_50 : decode b_Mo_leads 50 = .ok (.iload_n 2, 1) := by decide +kernel
theorem d_Mo_leads_51 : decode b_Mo_leads 51 = .ok (.imul, 1) := by decide +kernel
theorem d_Mo_leads_52 : decode b_Mo_leads 52 = .ok (.iload_n 3, 1) := by decide +kernel
theorem d_Mo_leads_53 : decode b_Mo_leads 53 = .ok (.iadd, 1) := by decide +kernel
theorem d_Mo_leads_54 : decode b_Mo_leads 54 = .ok (.invokevirtual 153, 3) := by decide +kernel
theorem d_Mo_leads_57 : decode b_Mo_leads 57 = .ok (.goto 4, 3) := by decide +kernel
theorem d_Mo_leads_60 : decode b_Mo_leads 60 = .ok (.iconst (-1), 1) := by decide +kernel
theorem d_Mo_leads_61 : decode b_Mo_leads 61 = .ok (.ireturn, 1) := by decide +kernel
theorem d_Mo_open_0 : decode b_Mo_open 0 = .ok (.iload_n 1, 1) := by decide +kernel
theorem d_Mo_open_1 : decode b_Mo_open 1 = .ok (.istore_n 2, 1) := by decide +kernel
theorem d_Mo_open_2 : decode b_Mo_open 2 = .ok (.iconst 0, 1) := by decide +kernel
theorem d_Mo_open_3 : decode b_Mo_open 3 = .ok (.istore_n 3, 1) := by decide +kernel
theorem d_Mo_open_4 : decode b_Mo_open 4 = .ok (.iload_n 3, 1) := by decide +kernel
theorem d_Mo_open_5 : decode b_Mo_open 5 = .ok (.aload_n 0, 1) := by decide +kernel
theorem d_Mo_open_6 : decode b_Mo_open 6 = .ok (.getfield 105, 3) := by decide +kernel
theorem d_Mo_open_9 : decode b_Mo_open 9 = .ok (.if_icmp .ge 32, 3) := by decide +kernel
theorem d_Mo_open_12 : decode b_Mo_open 12 = .ok (.aload_n 0, 1) := by decide +kernel
theorem d_Mo_open_13 : decode b_Mo_open 13 = .ok (.getfield 28, 3) := by decide +kernel
theorem d_Mo_open_16 : decode b_Mo_open 16 = .ok (.iload_n 3, 1) := by decide +kernel
theorem d_Mo_open_17 : decode b_Mo_open 17 = .ok (.iload_n 2, 1) := by decide +kernel
theorem d_Mo_open_18 : decode b_Mo_open 18 = .ok (.aload_n 0, 1) := by decide +kernel
theorem d_Mo_open_19 : decode b_Mo_open 19 = .ok (.getfield 7, 3) := by decide +kernel
theorem d_Mo_open_22 : decode b_Mo_open 22 = .ok (.iload_n 3, 1) := by decide +kernel
theorem d_Mo_open_23 : decode b_Mo_open 23 = .ok (.iaload, 1) := by decide +kernel
theorem d_Mo_open_24 : decode b_Mo_open 24 = .ok (.irem, 1) := by decide +kernel
theorem d_Mo_open_25 : decode b_Mo_open 25 = .ok (.iastore, 1) := by decide +kernel
theorem d_Mo_open_26 : decode b_Mo_open 26 = .ok (.iload_n 2, 1) := by decide +kernel
theorem d_Mo_open_27 : decode b_Mo_open 27 = .ok (.aload_n 0, 1) := by decide +kernel
theorem d_Mo_open_28 : decode b_Mo_open 28 = .ok (.getfield 7, 3) := by decide +kernel
theorem d_Mo_open_31 : decode b_Mo_open 31 = .ok (.iload_n 3, 1) := by decide +kernel
theorem d_Mo_open_32 : decode b_Mo_open 32 = .ok (.iaload, 1) := by decide +kernel
theorem d_Mo_open_33 : decode b_Mo_open 33 = .ok (.idiv, 1) := by decide +kernel
theorem d_Mo_open_34 : decode b_Mo_open 34 = .ok (.istore_n 2, 1) := by decide +kernel
theorem d_Mo_open_35 : decode b_Mo_open 35 = .ok (.iinc 3 1, 3) := by decide +kernel
theorem d_Mo_open_38 : decode b_Mo_open 38 = .ok (.goto (-34), 3) := by decide +kernel
theorem d_Mo_open_41 : decode b_Mo_open 41 = .ok (.return_, 1) := by decide +kernel
theorem d_Mo_hold_0 : decode b_Mo_hold 0 = .ok (.iconst 1, 1) := by decide +kernel
theorem d_Mo_hold_1 : decode b_Mo_hold 1 = .ok (.istore_n 2, 1) := by decide +kernel
theorem d_Mo_hold_2 : decode b_Mo_hold 2 = .ok (.iconst 0, 1) := by decide +kernel
theorem d_Mo_hold_3 : decode b_Mo_hold 3 = .ok (.istore_n 3, 1) := by decide +kernel
theorem d_Mo_hold_4 : decode b_Mo_hold 4 = .ok (.iload_n 3, 1) := by decide +kernel
theorem d_Mo_hold_5 : decode b_Mo_hold 5 = .ok (.aload_n 0, 1) := by decide +kernel
theorem d_Mo_hold_6 : decode b_Mo_hold 6 = .ok (.getfield 16, 3) := by decide +kernel
theorem d_Mo_hold_9 : decode b_Mo_hold 9 = .ok (.iload_n 1, 1) := by decide +kernel
theorem d_Mo_hold_10 : decode b_Mo_hold 10 = .ok (.iaload, 1) := by decide +kernel
theorem d_Mo_hold_11 : decode b_Mo_hold 11 = .ok (.if_icmp .ge 132, 3) := by decide +kernel
theorem d_Mo_hold_14 : decode b_Mo_hold 14 = .ok (.aload_n 0, 1) := by decide +kernel
theorem d_Mo_hold_15 : decode b_Mo_hold 15 = .ok (.getfield 28, 3) := by decide +kernel
theorem d_Mo_hold_18 : decode b_Mo_hold 18 = .ok (.aload_n 0, 1) := by decide +kernel
theorem d_Mo_hold_19 : decode b_Mo_hold 19 = .ok (.getfield 19, 3) := by decide +kernel
theorem d_Mo_hold_22 : decode b_Mo_hold 22 = .ok (.bipush 12, 2) := by decide +kernel
theorem d_Mo_hold_24 : decode b_Mo_hold 24 = .ok (.iload_n 1, 1) := by decide +kernel
theorem d_Mo_hold_25 : decode b_Mo_hold 25 = .ok (.imul, 1) := by decide +kernel
theorem d_Mo_hold_26 : decode b_Mo_hold 26 = .ok (.iconst 3, 1) := by decide +kernel
theorem d_Mo_hold_27 : decode b_Mo_hold 27 = .ok (.iload_n 3, 1) := by decide +kernel
theorem d_Mo_hold_28 : decode b_Mo_hold 28 = .ok (.imul, 1) := by decide +kernel
theorem d_Mo_hold_29 : decode b_Mo_hold 29 = .ok (.iadd, 1) := by decide +kernel
theorem d_Mo_hold_30 : decode b_Mo_hold 30 = .ok (.iaload, 1) := by decide +kernel
theorem d_Mo_hold_31 : decode b_Mo_hold 31 = .ok (.iaload, 1) := by decide +kernel
theorem d_Mo_hold_32 : decode b_Mo_hold 32 = .ok (.istore 4, 2) := by decide +kernel
theorem d_Mo_hold_34 : decode b_Mo_hold 34 = .ok (.aload_n 0, 1) := by decide +kernel
theorem d_Mo_hold_35 : decode b_Mo_hold 35 = .ok (.getfield 19, 3) := by decide +kernel
theorem d_Mo_hold_38 : decode b_Mo_hold 38 = .ok (.bipush 12, 2) := by decide +kernel
theorem d_Mo_hold_40 : decode b_Mo_hold 40 = .ok (.iload_n 1, 1) := by decide +kernel
theorem d_Mo_hold_41 : decode b_Mo_hold 41 = .ok (.imul, 1) := by decide +kernel
theorem d_Mo_hold_42 : decode b_Mo_hold 42 = .ok (.iconst 3, 1) := by decide +kernel
theorem d_Mo_hold_43 : decode b_Mo_hold 43 = .ok (.iload_n 3, 1) := by decide +kernel
theorem d_Mo_hold_44 : decode b_Mo_hold 44 = .ok (.imul, 1) := by decide +kernel
theorem d_Mo_hold_45 : decode b_Mo_hold 45 = .ok (.iadd, 1) := by decide +kernel
theorem d_Mo_hold_46 : decode b_Mo_hold 46 = .ok (.iconst 1, 1) := by decide +kernel
theorem d_Mo_hold_47 : decode b_Mo_hold 47 = .ok (.iadd, 1) := by decide +kernel
theorem d_Mo_hold_48 : decode b_Mo_hold 48 = .ok (.iaload, 1) := by decide +kernel
theorem d_Mo_hold_49 : decode b_Mo_hold 49 = .ok (.istore 5, 2) := by decide +kernel
theorem d_Mo_hold_51 : decode b_Mo_hold 51 = .ok (.aload_n 0, 1) := by decide +kernel
theorem d_Mo_hold_52 : decode b_Mo_hold 52 = .ok (.getfield 19, 3) := by decide +kernel
theorem d_Mo_hold_55 : decode b_Mo_hold 55 = .ok (.bipush 12, 2) := by decide +kernel
theorem d_Mo_hold_57 : decode b_Mo_hold 57 = .ok (.iload_n 1, 1) := by decide +kernel
theorem d_Mo_hold_58 : decode b_Mo_hold 58 = .ok (.imul, 1) := by decide +kernel
theorem d_Mo_hold_59 : decode b_Mo_hold 59 = .ok (.iconst 3, 1) := by decide +kernel
theorem d_Mo_hold_60 : decode b_Mo_hold 60 = .ok (.iload_n 3, 1) := by decide +kernel
theorem d_Mo_hold_61 : decode b_Mo_hold 61 = .ok (.imul, 1) := by decide +kernel
theorem d_Mo_hold_62 : decode b_Mo_hold 62 = .ok (.iadd, 1) := by decide +kernel
theorem d_Mo_hold_63 : decode b_Mo_hold 63 = .ok (.iconst 2, 1) := by decide +kernel
theorem d_Mo_hold_64 : decode b_Mo_hold 64 = .ok (.iadd, 1) := by decide +kernel
theorem d_Mo_hold_65 : decode b_Mo_hold 65 = .ok (.iaload, 1) := by decide +kernel
theorem d_Mo_hold_66 : decode b_Mo_hold 66 = .ok (.istore 6, 2) := by decide +kernel
theorem d_Mo_hold_68 : decode b_Mo_hold 68 = .ok (.iload_n 2, 1) := by decide +kernel
theorem d_Mo_hold_69 : decode b_Mo_hold 69 = .ok (.ifCond .eq 66, 3) := by decide +kernel
theorem d_Mo_hold_72 : decode b_Mo_hold 72 = .ok (.iload 5, 2) := by decide +kernel
theorem d_Mo_hold_74 : decode b_Mo_hold 74 = .ok (.ifCond .ne 13, 3) := by decide +kernel
theorem d_Mo_hold_77 : decode b_Mo_hold 77 = .ok (.iload 4, 2) := by decide +kernel
theorem d_Mo_hold_79 : decode b_Mo_hold 79 = .ok (.iload 6, 2) := by decide +kernel
theorem d_Mo_hold_81 : decode b_Mo_hold 81 = .ok (.if_icmp .ne 54, 3) := by decide +kernel
theorem d_Mo_hold_84 : decode b_Mo_hold 84 = .ok (.goto 47, 3) := by decide +kernel
theorem d_Mo_hold_87 : decode b_Mo_hold 87 = .ok (.iload 5, 2) := by decide +kernel
theorem d_Mo_hold_89 : decode b_Mo_hold 89 = .ok (.iconst 1, 1) := by decide +kernel
theorem d_Mo_hold_90 : decode b_Mo_hold 90 = .ok (.if_icmp .ne 13, 3) := by decide +kernel
theorem d_Mo_hold_93 : decode b_Mo_hold 93 = .ok (.iload 4, 2) := by decide +kernel
theorem d_Mo_hold_95 : decode b_Mo_hold 95 = .ok (.iload 6, 2) := by decide +kernel
theorem d_Mo_hold_97 : decode b_Mo_hold 97 = .ok (.if_icmp .eq 38, 3) := by decide +kernel
theorem d_Mo_hold_100 : decode b_Mo_hold 100 = .ok (.goto 31, 3) := by decide +kernel
theorem d_Mo_hold_103 : decode b_Mo_hold 103 = .ok (.iload 5, 2) := by decide +kernel
theorem d_Mo_hold_105 : decode b_Mo_hold 105 = .ok (.iconst 2, 1) := by decide +kernel
theorem d_Mo_hold_106 : decode b_Mo_hold 106 = .ok (.if_icmp .ne 18, 3) := by decide +kernel
theorem d_Mo_hold_109 : decode b_Mo_hold 109 = .ok (.iload 4, 2) := by decide +kernel
theorem d_Mo_hold_111 : decode b_Mo_hold 111 = .ok (.aload_n 0, 1) := by decide +kernel
theorem d_Mo_hold_112 : decode b_Mo_hold 112 = .ok (.getfield 28, 3) := by decide +kernel
theorem d_Mo_hold_115 : decode b_Mo_hold 115 = .ok (.iload 6, 2) := by decide +kernel
theorem d_Mo_hold_117 : decode b_Mo_hold 117 = .ok (.iaload, 1) := by decide +kernel
theorem d_Mo_hold_118 : decode b_Mo_hold 118 = .ok (.if_icmp .ne 17, 3) := by decide +kernel
theorem d_Mo_hold_121 : decode b_Mo_hold 121 = .ok (.goto 10, 3) := by decide +kernel
theorem d_Mo_hold_124 : decode b_Mo_hold 124 = .ok (.iload 4, 2) := by decide +kernel
theorem d_Mo_hold_126 : decode b_Mo_hold 126 = .ok (.iload 6, 2) := by decide +kernel
theorem d_Mo_hold_128 : decode b_Mo_hold 128 = .ok (.if_icmp .ge 7, 3) := by decide +kernel
theorem d_Mo_hold_131 : decode b_Mo_hold 131 = .ok (.iconst 1, 1) := by decide +kernel
theorem d_Mo_hold_132 : decode b_Mo_hold 132 = .ok (.goto 4, 3) := by decide +kernel
theorem d_Mo_hold_135 : decode b_Mo_hold 135 = .ok (.iconst 0, 1) := by decide +kernel
theorem d_Mo_hold_136 : decode b_Mo_hold 136 = .ok (.istore_n 2, 1) := by decide +kernel
theorem d_Mo_hold_137 : decode b_Mo_hold 137 = .ok (.iinc 3 1, 3) := by decide +kernel
theorem d_Mo_hold_140 : decode b_Mo_hold 140 = .ok (.goto (-136), 3) := by decide +kernel
theorem d_Mo_hold_143 : decode b_Mo_hold 143 = .ok (.iload_n 2, 1) := by decide +kernel
theorem d_Mo_hold_144 : decode b_Mo_hold 144 = .ok (.ireturn, 1) := by decide +kernel
theorem d_Mo_goes_0 : decode b_Mo_goes 0 = .ok (.iconst 0, 1) := by decide +kernel
theorem d_Mo_goes_1 : decode b_Mo_goes 1 = .ok (.istore_n 2, 1) := by decide +kernel
theorem d_Mo_goes_2 : decode b_Mo_goes 2 = .ok (.iload_n 2, 1) := by decide +kernel
theorem d_Mo_goes_3 : decode b_Mo_goes 3 = .ok (.aload_n 0, 1) := by decide +kernel
theorem d_Mo_goes_4 : decode b_Mo_goes 4 = .ok (.getfield 105, 3) := by decide +kernel
theorem d_Mo_goes_7 : decode b_Mo_goes 7 = .ok (.if_icmp .ge 21, 3) := by decide +kernel
theorem d_Mo_goes_10 : decode b_Mo_goes 10 = .ok (.aload_n 0, 1) := by decide +kernel
theorem d_Mo_goes_11 : decode b_Mo_goes 11 = .ok (.getfield 31, 3) := by decide +kernel
theorem d_Mo_goes_14 : decode b_Mo_goes 14 = .ok (.iload_n 2, 1) := by decide +kernel
theorem d_Mo_goes_15 : decode b_Mo_goes 15 = .ok (.aload_n 0, 1) := by decide +kernel
theorem d_Mo_goes_16 : decode b_Mo_goes 16 = .ok (.getfield 28, 3) := by decide +kernel
theorem d_Mo_goes_19 : decode b_Mo_goes 19 = .ok (.iload_n 2, 1) := by decide +kernel
theorem d_Mo_goes_20 : decode b_Mo_goes 20 = .ok (.iaload, 1) := by decide +kernel
theorem d_Mo_goes_21 : decode b_Mo_goes 21 = .ok (.iastore, 1) := by decide +kernel
theorem d_Mo_goes_22 : decode b_Mo_goes 22 = .ok (.iinc 2 1, 3) := by decide +kernel
theorem d_Mo_goes_25 : decode b_Mo_goes 25 = .ok (.goto (-23), 3) := by decide +kernel
theorem d_Mo_goes_28 : decode b_Mo_goes 28 = .ok (.iconst 0, 1) := by decide +kernel
theorem d_Mo_goes_29 : decode b_Mo_goes 29 = .ok (.istore_n 2, 1) := by decide +kernel
theorem d_Mo_goes_30 : decode b_Mo_goes 30 = .ok (.iload_n 2, 1) := by decide +kernel
theorem d_Mo_goes_31 : decode b_Mo_goes 31 = .ok (.aload_n 0, 1) := by decide +kernel
theorem d_Mo_goes_32 : decode b_Mo_goes 32 = .ok (.getfield 22, 3) := by decide +kernel
theorem d_Mo_goes_35 : decode b_Mo_goes 35 = .ok (.iload_n 1, 1) := by decide +kernel
theorem d_Mo_goes_36 : decode b_Mo_goes 36 = .ok (.iaload, 1) := by decide +kernel
theorem d_Mo_goes_37 : decode b_Mo_goes 37 = .ok (.if_icmp .ge 112, 3) := by decide +kernel
theorem d_Mo_goes_40 : decode b_Mo_goes 40 = .ok (.aload_n 0, 1) := by decide +kernel
theorem d_Mo_goes_41 : decode b_Mo_goes 41 = .ok (.getfield 25, 3) := by decide +kernel
theorem d_Mo_goes_44 : decode b_Mo_goes 44 = .ok (.bipush 12, 2) := by decide +kernel
theorem d_Mo_goes_46 : decode b_Mo_goes 46 = .ok (.iload_n 1, 1) := by decide +kernel
theorem d_Mo_goes_47 : decode b_Mo_goes 47 = .ok (.imul, 1) := by decide +kernel
theorem d_Mo_goes_48 : decode b_Mo_goes 48 = .ok (.iconst 3, 1) := by decide +kernel
theorem d_Mo_goes_49 : decode b_Mo_goes 49 = .ok (.iload_n 2, 1) := by decide +kernel
theorem d_Mo_goes_50 : decode b_Mo_goes 50 = .ok (.imul, 1) := by decide +kernel
theorem d_Mo_goes_51 : decode b_Mo_goes 51 = .ok (.iadd, 1) := by decide +kernel
theorem d_Mo_goes_52 : decode b_Mo_goes 52 = .ok (.iaload, 1) := by decide +kernel
theorem d_Mo_goes_53 : decode b_Mo_goes 53 = .ok (.istore_n 3, 1) := by decide +kernel
theorem d_Mo_goes_54 : decode b_Mo_goes 54 = .ok (.aload_n 0, 1) := by decide +kernel
theorem d_Mo_goes_55 : decode b_Mo_goes 55 = .ok (.getfield 25, 3) := by decide +kernel
theorem d_Mo_goes_58 : decode b_Mo_goes 58 = .ok (.bipush 12, 2) := by decide +kernel
theorem d_Mo_goes_60 : decode b_Mo_goes 60 = .ok (.iload_n 1, 1) := by decide +kernel
theorem d_Mo_goes_61 : decode b_Mo_goes 61 = .ok (.imul, 1) := by decide +kernel
theorem d_Mo_goes_62 : decode b_Mo_goes 62 = .ok (.iconst 3, 1) := by decide +kernel
theorem d_Mo_goes_63 : decode b_Mo_goes 63 = .ok (.iload_n 2, 1) := by decide +kernel
theorem d_Mo_goes_64 : decode b_Mo_goes 64 = .ok (.imul, 1) := by decide +kernel
theorem d_Mo_goes_65 : decode b_Mo_goes 65 = .ok (.iadd, 1) := by decide +kernel
theorem d_Mo_goes_66 : decode b_Mo_goes 66 = .ok (.iconst 1, 1) := by decide +kernel
theorem d_Mo_goes_67 : decode b_Mo_goes 67 = .ok (.iadd, 1) := by decide +kernel
theorem d_Mo_goes_68 : decode b_Mo_goes 68 = .ok (.iaload, 1) := by decide +kernel
theorem d_Mo_goes_69 : decode b_Mo_goes 69 = .ok (.istore 4, 2) := by decide +kernel
theorem d_Mo_goes_71 : decode b_Mo_goes 71 = .ok (.aload_n 0, 1) := by decide +kernel
theorem d_Mo_goes_72 : decode b_Mo_goes 72 = .ok (.getfield 25, 3) := by decide +kernel
theorem d_Mo_goes_75 : decode b_Mo_goes 75 = .ok (.bipush 12, 2) := by decide +kernel
theorem d_Mo_goes_77 : decode b_Mo_goes 77 = .ok (.iload_n 1, 1) := by decide +kernel
theorem d_Mo_goes_78 : decode b_Mo_goes 78 = .ok (.imul, 1) := by decide +kernel
theorem d_Mo_goes_79 : decode b_Mo_goes 79 = .ok (.iconst 3, 1) := by decide +kernel
theorem d_Mo_goes_80 : decode b_Mo_goes 80 = .ok (.iload_n 2, 1) := by decide +kernel
theorem d_Mo_goes_81 : decode b_Mo_goes 81 = .ok (.imul, 1) := by decide +kernel
theorem d_Mo_goes_82 : decode b_Mo_goes 82 = .ok (.iadd, 1) := by decide +kernel
theorem d_Mo_goes_83 : decode b_Mo_goes 83 = .ok (.iconst 2, 1) := by decide +kernel
theorem d_Mo_goes_84 : decode b_Mo_goes 84 = .ok (.iadd, 1) := by decide +kernel
theorem d_Mo_goes_85 : decode b_Mo_goes 85 = .ok (.iaload, 1) := by decide +kernel
theorem d_Mo_goes_86 : decode b_Mo_goes 86 = .ok (.istore 5, 2) := by decide +kernel
theorem d_Mo_goes_88 : decode b_Mo_goes 88 = .ok (.aload_n 0, 1) := by decide +kernel
theorem d_Mo_goes_89 : decode b_Mo_goes 89 = .ok (.getfield 31, 3) := by decide +kernel
theorem d_Mo_goes_92 : decode b_Mo_goes 92 = .ok (.iload_n 3, 1) := by decide +kernel
theorem d_Mo_goes_93 : decode b_Mo_goes 93 = .ok (.iload 4, 2) := by decide +kernel
theorem d_Mo_goes_95 : decode b_Mo_goes 95 = .ok (.ifCond .ne 8, 3) := by decide +kernel
theorem d_Mo_goes_98 : decode b_Mo_goes 98 = .ok (.iload 5, 2) := by decide +kernel
theorem d_Mo_goes_100 : decode b_Mo_goes 100 = .ok (.goto 42, 3) := by decide +kernel
theorem d_Mo_goes_103 : decode b_Mo_goes 103 = .ok (.iload 4, 2) := by decide +kernel
theorem d_Mo_goes_105 : decode b_Mo_goes 105 = .ok (.iconst 1, 1) := by decide +kernel
theorem d_Mo_goes_106 : decode b_Mo_goes 106 = .ok (.if_icmp .ne 20, 3) := by decide +kernel
theorem d_Mo_goes_109 : decode b_Mo_goes 109 = .ok (.aload_n 0, 1) := by decide +kernel
theorem d_Mo_goes_110 : decode b_Mo_goes 110 = .ok (.getfield 28, 3) := by decide +kernel
theorem d_Mo_goes_113 : decode b_Mo_goes 113 = .ok (.iload 5, 2) := by decide +kernel
theorem d_Mo_goes_115 : decode b_Mo_goes 115 = .ok (.iaload, 1) := by decide +kernel
theorem d_Mo_goes_116 : decode b_Mo_goes 116 = .ok (.aload_n 0, 1) := by decide +kernel
theorem d_Mo_goes_117 : decode b_Mo_goes 117 = .ok (.getfield 7, 3) := by decide +kernel
theorem d_Mo_goes_120 : decode b_Mo_goes 120 = .ok (.iload_n 3, 1) := by decide +kernel
theorem d_Mo_goes_121 : decode b_Mo_goes 121 = .ok (.iaload, 1) := by decide +kernel
theorem d_Mo_goes_122 : decode b_Mo_goes 122 = .ok (.irem, 1) := by decide +kernel
theorem d_Mo_goes_123 : decode b_Mo_goes 123 = .ok (.goto 19, 3) := by decide +kernel
theorem d_Mo_goes_126 : decode b_Mo_goes 126 = .ok (.aload_n 0, 1) := by decide +kernel
theorem d_Mo_goes_127 : decode b_Mo_goes 127 = .ok (.getfield 28, 3) := by decide +kernel
theorem d_Mo_goes_130 : decode b_Mo_goes 130 = .ok (.iload_n 3, 1) := by decide +kernel
theorem d_Mo_goes_131 : decode b_Mo_goes 131 = .ok (.iaload, 1) := by decide +kernel
theorem d_Mo_goes_132 : decode b_Mo_goes 132 = .ok (.iload 5, 2) := by decide +kernel
theorem d_Mo_goes_134 : decode b_Mo_goes 134 = .ok (.iadd, 1) := by decide +kernel
theorem d_Mo_goes_135 : decode b_Mo_goes 135 = .ok (.aload_n 0, 1) := by decide +kernel
theorem d_Mo_goes_136 : decode b_Mo_goes 136 = .ok (.getfield 7, 3) := by decide +kernel
theorem d_Mo_goes_139 : decode b_Mo_goes 139 = .ok (.iload_n 3, 1) := by decide +kernel
theorem d_Mo_goes_140 : decode b_Mo_goes 140 = .ok (.iaload, 1) := by decide +kernel
theorem d_Mo_goes_141 : decode b_Mo_goes 141 = .ok (.irem, 1) := by decide +kernel
theorem d_Mo_goes_142 : decode b_Mo_goes 142 = .ok (.iastore, 1) := by decide +kernel
theorem d_Mo_goes_143 : decode b_Mo_goes 143 = .ok (.iinc 2 1, 3) := by decide +kernel
theorem d_Mo_goes_146 : decode b_Mo_goes 146 = .ok (.goto (-116), 3) := by decide +kernel
theorem d_Mo_goes_149 : decode b_Mo_goes 149 = .ok (.aload_n 0, 1) := by decide +kernel
theorem d_Mo_goes_150 : decode b_Mo_goes 150 = .ok (.invokevirtual 143, 3) := by decide +kernel
theorem d_Mo_goes_153 : decode b_Mo_goes 153 = .ok (.ireturn, 1) := by decide +kernel
theorem d_Mo_closeThen_0 : decode b_Mo_closeThen 0 = .ok (.iconst 0, 1) := by decide +kernel
theorem d_Mo_closeThen_1 : decode b_Mo_closeThen 1 = .ok (.istore_n 1, 1) := by decide +kernel
theorem d_Mo_closeThen_2 : decode b_Mo_closeThen 2 = .ok (.aload_n 0, 1) := by decide +kernel
theorem d_Mo_closeThen_3 : decode b_Mo_closeThen 3 = .ok (.getfield 105, 3) := by decide +kernel
theorem d_Mo_closeThen_6 : decode b_Mo_closeThen 6 = .ok (.iconst 1, 1) := by decide +kernel
theorem d_Mo_closeThen_7 : decode b_Mo_closeThen 7 = .ok (.isub, 1) := by decide +kernel
theorem d_Mo_closeThen_8 : decode b_Mo_closeThen 8 = .ok (.istore_n 2, 1) := by decide +kernel
theorem d_Mo_closeThen_9 : decode b_Mo_closeThen 9 = .ok (.iload_n 2, 1) := by decide +kernel
theorem d_Mo_closeThen_10 : decode b_Mo_closeThen 10 = .ok (.ifCond .lt 25, 3) := by decide +kernel
theorem d_Mo_closeThen_13 : decode b_Mo_closeThen 13 = .ok (.iload_n 1, 1) := by decide +kernel
theorem d_Mo_closeThen_14 : decode b_Mo_closeThen 14 = .ok (.aload_n 0, 1) := by decide +kernel
theorem d_Mo_closeThen_15 : decode b_Mo_closeThen 15 = .ok (.getfield 7, 3) := by decide +kernel
theorem d_Mo_closeThen_18 : decode b_Mo_closeThen 18 = .ok (.iload_n 2, 1) := by decide +kernel
theorem d_Mo_closeThen_19 : decode b_Mo_closeThen 19 = .ok (.iaload, 1) := by decide +kernel
theorem d_Mo_closeThen_20 : decode b_Mo_closeThen 20 = .ok (.imul, 1) := by decide +kernel
theorem d_Mo_closeThen_21 : decode b_Mo_closeThen 21 = .ok (.aload_n 0, 1) := by decide +kernel
theorem d_Mo_closeThen_22 : decode b_Mo_closeThen 22 = .ok (.getfield 31, 3) := by decide +kernel
theorem d_Mo_closeThen_25 : decode b_Mo_closeThen 25 = .ok (.iload_n 2, 1) := by decide +kernel
theorem d_Mo_closeThen_26 : decode b_Mo_closeThen 26 = .ok (.iaload, 1) := by decide +kernel
theorem d_Mo_closeThen_27 : decode b_Mo_closeThen 27 = .ok (.iadd, 1) := by decide +kernel
theorem d_Mo_closeThen_28 : decode b_Mo_closeThen 28 = .ok (.istore_n 1, 1) := by decide +kernel
theorem d_Mo_closeThen_29 : decode b_Mo_closeThen 29 = .ok (.iinc 2 (-1), 3) := by decide +kernel
theorem d_Mo_closeThen_32 : decode b_Mo_closeThen 32 = .ok (.goto (-23), 3) := by decide +kernel
theorem d_Mo_closeThen_35 : decode b_Mo_closeThen 35 = .ok (.iload_n 1, 1) := by decide +kernel
theorem d_Mo_closeThen_36 : decode b_Mo_closeThen 36 = .ok (.ireturn, 1) := by decide +kernel
theorem d_Mo_count_0 : decode b_Mo_count 0 = .ok (.aload_n 0, 1) := by decide +kernel
theorem d_Mo_count_1 : decode b_Mo_count 1 = .ok (.invokevirtual 191, 3) := by decide +kernel
theorem d_Mo_count_4 : decode b_Mo_count 4 = .ok (.iconst 0, 1) := by decide +kernel
theorem d_Mo_count_5 : decode b_Mo_count 5 = .ok (.istore_n 2, 1) := by decide +kernel
theorem d_Mo_count_6 : decode b_Mo_count 6 = .ok (.iload_n 1, 1) := by decide +kernel
theorem d_Mo_count_7 : decode b_Mo_count 7 = .ok (.tableswitch 86 0 10 #[57, 62, 67, 86, 86, 86, 86, 86, 86, 72, 81], 57) := by decide +kernel
theorem d_Mo_count_64 : decode b_Mo_count 64 = .ok (.aload_n 0, 1) := by decide +kernel
theorem d_Mo_count_65 : decode b_Mo_count 65 = .ok (.getfield 157, 3) := by decide +kernel
theorem d_Mo_count_68 : decode b_Mo_count 68 = .ok (.ireturn, 1) := by decide +kernel
theorem d_Mo_count_69 : decode b_Mo_count 69 = .ok (.aload_n 0, 1) := by decide +kernel
theorem d_Mo_count_70 : decode b_Mo_count 70 = .ok (.getfield 105, 3) := by decide +kernel
theorem d_Mo_count_73 : decode b_Mo_count 73 = .ok (.ireturn, 1) := by decide +kernel
theorem d_Mo_count_74 : decode b_Mo_count 74 = .ok (.aload_n 0, 1) := by decide +kernel
theorem d_Mo_count_75 : decode b_Mo_count 75 = .ok (.getfield 112, 3) := by decide +kernel
theorem d_Mo_count_78 : decode b_Mo_count 78 = .ok (.ireturn, 1) := by decide +kernel
theorem d_Mo_count_79 : decode b_Mo_count 79 = .ok (.aload_n 0, 1) := by decide +kernel
theorem d_Mo_count_80 : decode b_Mo_count 80 = .ok (.invokevirtual 206, 3) := by decide +kernel
theorem d_Mo_count_83 : decode b_Mo_count 83 = .ok (.aload_n 0, 1) := by decide +kernel
theorem d_Mo_count_84 : decode b_Mo_count 84 = .ok (.getfield 194, 3) := by decide +kernel
theorem d_Mo_count_87 : decode b_Mo_count 87 = .ok (.ireturn, 1) := by decide +kernel
theorem d_Mo_count_88 : decode b_Mo_count 88 = .ok (.aload_n 0, 1) := by decide +kernel
theorem d_Mo_count_89 : decode b_Mo_count 89 = .ok (.getfield 115, 3) := by decide +kernel
theorem d_Mo_count_92 : decode b_Mo_count 92 = .ok (.ireturn, 1) := by decide +kernel
theorem d_Mo_count_93 : decode b_Mo_count 93 = .ok (.iload_n 1, 1) := by decide +kernel
theorem d_Mo_count_94 : decode b_Mo_count 94 = .ok (.iconst 3, 1) := by decide +kernel
theorem d_Mo_count_95 : decode b_Mo_count 95 = .ok (.bipush 8, 2) := by decide +kernel
theorem d_Mo_count_97 : decode b_Mo_count 97 = .ok (.invokestatic 118, 3) := by decide +kernel
theorem d_Mo_count_100 : decode b_Mo_count 100 = .ok (.ifCond .ne 6, 3) := by decide +kernel
theorem d_Mo_count_103 : decode b_Mo_count 103 = .ok (.bipush (-2), 2) := by decide +kernel
theorem d_Mo_count_105 : decode b_Mo_count 105 = .ok (.ireturn, 1) := by decide +kernel
theorem d_Mo_count_106 : decode b_Mo_count 106 = .ok (.iconst 0, 1) := by decide +kernel
theorem d_Mo_count_107 : decode b_Mo_count 107 = .ok (.istore_n 3, 1) := by decide +kernel
theorem d_Mo_count_108 : decode b_Mo_count 108 = .ok (.iload_n 3, 1) := by decide +kernel
theorem d_Mo_count_109 : decode b_Mo_count 109 = .ok (.aload_n 0, 1) := by decide +kernel
theorem d_Mo_count_110 : decode b_Mo_count 110 = .ok (.getfield 157, 3) := by decide +kernel
theorem d_Mo_count_113 : decode b_Mo_count 113 = .ok (.if_icmp .ge 157, 3) := by decide +kernel
theorem d_Mo_count_116 : decode b_Mo_count 116 = .ok (.iload_n 1, 1) := by decide +kernel
theorem d_Mo_count_117 : decode b_Mo_count 117 = .ok (.iconst 3, 1) := by decide +kernel
theorem d_Mo_count_118 : decode b_Mo_count 118 = .ok (.if_icmp .ne 21, 3) := by decide +kernel
theorem d_Mo_count_121 : decode b_Mo_count 121 = .ok (.aload_n 0, 1) := by decide +kernel
theorem d_Mo_count_122 : decode b_Mo_count 122 = .ok (.getfield 51, 3) := by decide +kernel
theorem d_Mo_count_125 : decode b_Mo_count 125 = .ok (.iload_n 3, 1) := by decide +kernel
theorem d_Mo_count_126 : decode b_Mo_count 126 = .ok (.iaload, 1) := by decide +kernel
theorem d_Mo_count_127 : decode b_Mo_count 127 = .ok (.iconst (-1), 1) := by decide +kernel
theorem d_Mo_count_128 : decode b_Mo_count 128 = .ok (.if_icmp .eq 7, 3) := by decide +kernel
theorem d_Mo_count_131 : decode b_Mo_count 131 = .ok (.iconst 1, 1) := by decide +kernel
theorem d_Mo_count_132 : decode b_Mo_count 132 = .ok (.goto 117, 3) := by decide +kernel
theorem d_Mo_count_135 : decode b_Mo_count 135 = .ok (.iconst 0, 1) := by decide +kernel
theorem d_Mo_count_136 : decode b_Mo_count 136 = .ok (.goto 113, 3) := by decide +kernel
theorem d_Mo_count_139 : decode b_Mo_count 139 = .ok (.iload_n 1, 1) := by decide +kernel
theorem d_Mo_count_140 : decode b_Mo_count 140 = .ok (.iconst 4, 1) := by decide +kernel
theorem d_Mo_count_141 : decode b_Mo_count 141 = .ok (.if_icmp .ne 12, 3) := by decide +kernel
theorem d_Mo_count_144 : decode b_Mo_count 144 = .ok (.aload_n 0, 1) := by decide +kernel
theorem d_Mo_count_145 : decode b_Mo_count 145 = .ok (.getfield 38, 3) := by decide +kernel
theorem d_Mo_count_148 : decode b_Mo_count 148 = .ok (.iload_n 3, 1) := by decide +kernel
theorem d_Mo_count_149 : decode b_Mo_count 149 = .ok (.baload, 1) := by decide +kernel
theorem d_Mo_count_150 : decode b_Mo_count 150 = .ok (.goto 99, 3) := by decide +kernel
theorem d_Mo_count_153 : decode b_Mo_count 153 = .ok (.iload_n 1, 1) := by decide +kernel
theorem d_Mo_count_154 : decode b_Mo_count 154 = .ok (.iconst 5, 1) := by decide +kernel
theorem d_Mo_count_155 : decode b_Mo_count 155 = .ok (.if_icmp .ne 21, 3) := by decide +kernel
theorem d_Mo_count_158 : decode b_Mo_count 158 = .ok (.aload_n 0, 1) := by decide +kernel
theorem d_Mo_count_159 : decode b_Mo_count 159 = .ok (.getfield 54, 3) := by decide +kernel
theorem d_Mo_count_162 : decode b_Mo_count 162 = .ok (.iload_n 3, 1) := by decide +kernel
theorem d_Mo_count_163 : decode b_Mo_count 163 = .ok (.iaload, 1) := by decide +kernel
theorem d_Mo_count_164 : decode b_Mo_count 164 = .ok (.iconst (-1), 1) := by decide +kernel
theorem d_Mo_count_165 : decode b_Mo_count 165 = .ok (.if_icmp .eq 7, 3) := by decide +kernel
theorem d_Mo_count_168 : decode b_Mo_count 168 = .ok (.iconst 1, 1) := by decide +kernel
theorem d_Mo_count_169 : decode b_Mo_count 169 = .ok (.goto 80, 3) := by decide +kernel
theorem d_Mo_count_172 : decode b_Mo_count 172 = .ok (.iconst 0, 1) := by decide +kernel
theorem d_Mo_count_173 : decode b_Mo_count 173 = .ok (.goto 76, 3) := by decide +kernel
theorem d_Mo_count_176 : decode b_Mo_count 176 = .ok (.iload_n 1, 1) := by decide +kernel
theorem d_Mo_count_177 : decode b_Mo_count 177 = .ok (.bipush 6, 2) := by decide +kernel
theorem d_Mo_count_179 : decode b_Mo_count 179 = .ok (.if_icmp .ne 21, 3) := by decide +kernel
theorem d_Mo_count_182 : decode b_Mo_count 182 = .ok (.aload_n 0, 1) := by decide +kernel
theorem d_Mo_count_183 : decode b_Mo_count 183 = .ok (.getfield 57, 3) := by decide +kernel
theorem d_Mo_count_186 : decode b_Mo_count 186 = .ok (.iload_n 3, 1) := by decide +kernel
theorem d_Mo_count_187 : decode b_Mo_count 187 = .ok (.iaload, 1) := by decide +kernel
theorem d_Mo_count_188 : decode b_Mo_count 188 = .ok (.iconst (-1), 1) := by decide +kernel
theorem d_Mo_count_189 : decode b_Mo_count 189 = .ok (.if_icmp .eq 7, 3) := by decide +kernel
theorem d_Mo_count_192 : decode b_Mo_count 192 = .ok (.iconst 1, 1) := by decide +kernel
theorem d_Mo_count_193 : decode b_Mo_count 193 = .ok (.goto 56, 3) := by decide +kernel
theorem d_Mo_count_196 : decode b_Mo_count 196 = .ok (.iconst 0, 1) := by decide +kernel
theorem d_Mo_count_197 : decode b_Mo_count 197 = .ok (.goto 52, 3) := by decide +kernel
theorem d_Mo_count_200 : decode b_Mo_count 200 = .ok (.iload_n 1, 1) := by decide +kernel
theorem d_Mo_count_201 : decode b_Mo_count 201 = .ok (.bipush 7, 2) := by decide +kernel
theorem d_Mo_count_203 : decode b_Mo_count 203 = .ok (.if_icmp .ne 21, 3) := by decide +kernel
theorem d_Mo_count_206 : decode b_Mo_count 206 = .ok (.aload_n 0, 1) := by decide +kernel
theorem d_Mo_count_207 : decode b_Mo_count 207 = .ok (.getfield 60, 3) := by decide +kernel
theorem d_Mo_count_210 : decode b_Mo_count 210 = .ok (.iload_n 3, 1) := by decide +kernel
theorem d_Mo_count_211 : decode b_Mo_count 211 = .ok (.iaload, 1) := by decide +kernel
theorem d_Mo_count_212 : decode b_Mo_count 212 = .ok (.iconst (-1), 1) := by decide +kernel
theorem d_Mo_count_213 : decode b_Mo_count 213 = .ok (.if_icmp .eq 7, 3) := by decide +kernel
theorem d_Mo_count_216 : decode b_Mo_count 216 = .ok (.iconst 1, 1) := by decide +kernel
theorem d_Mo_count_217 : decode b_Mo_count 217 = .ok (.goto 32, 3) := by decide +kernel
theorem d_Mo_count_220 : decode b_Mo_count 220 = .ok (.iconst 0, 1) := by decide +kernel
theorem d_Mo_count_221 : decode b_Mo_count 221 = .ok (.goto 28, 3) := by decide +kernel
theorem d_Mo_count_224 : decode b_Mo_count 224 = .ok (.aload_n 0, 1) := by decide +kernel
theorem d_Mo_count_225 : decode b_Mo_count 225 = .ok (.getfield 51, 3) := by decide +kernel
theorem d_Mo_count_228 : decode b_Mo_count 228 = .ok (.iload_n 3, 1) := by decide +kernel
theorem d_Mo_count_229 : decode b_Mo_count 229 = .ok (.iaload, 1) := by decide +kernel
theorem d_Mo_count_230 : decode b_Mo_count 230 = .ok (.iconst (-1), 1) := by decide +kernel
theorem d_Mo_count_231 : decode b_Mo_count 231 = .ok (.if_icmp .eq 17, 3) := by decide +kernel
theorem d_Mo_count_234 : decode b_Mo_count 234 = .ok (.aload_n 0, 1) := by decide +kernel
theorem d_Mo_count_235 : decode b_Mo_count 235 = .ok (.getfield 54, 3) := by decide +kernel
theorem d_Mo_count_238 : decode b_Mo_count 238 = .ok (.iload_n 3, 1) := by decide +kernel
theorem d_Mo_count_239 : decode b_Mo_count 239 = .ok (.iaload, 1) := by decide +kernel
theorem d_Mo_count_240 : decode b_Mo_count 240 = .ok (.iconst (-1), 1) := by decide +kernel
theorem d_Mo_count_241 : decode b_Mo_count 241 = .ok (.if_icmp .ne 7, 3) := by decide +kernel
theorem d_Mo_count_244 : decode b_Mo_count 244 = .ok (.iconst 1, 1) := by decide +kernel
theorem d_Mo_count_245 : decode b_Mo_count 245 = .ok (.goto 4, 3) := by decide +kernel
theorem d_Mo_count_248 : decode b_Mo_count 248 = .ok (.iconst 0, 1) := by decide +kernel
theorem d_Mo_count_249 : decode b_Mo_count 249 = .ok (.istore 4, 2) := by decide +kernel
theorem d_Mo_count_251 : decode b_Mo_count 251 = .ok (.iload_n 2, 1) := by decide +kernel
theorem d_Mo_count_252 : decode b_Mo_count 252 = .ok (.iload 4, 2) := by decide +kernel
theorem d_Mo_count_254 : decode b_Mo_count 254 = .ok (.ifCond .eq 7, 3) := by decide +kernel
theorem d_Mo_count_257 : decode b_Mo_count 257 = .ok (.iconst 1, 1) := by decide +kernel
theorem d_Mo_count_258 : decode b_Mo_count 258 = .ok (.goto 4, 3) := by decide +kernel
theorem d_Mo_count_261 : decode b_Mo_count 261 = .ok (.iconst 0, 1) := by decide +kernel
theorem d_Mo_count_262 : decode b_Mo_count 262 = .ok (.iadd, 1) := by decide +kernel
theorem d_Mo_count_263 : decode b_Mo_count 263 = .ok (.istore_n 2, 1) := by decide +kernel
theorem d_Mo_count_264 : decode b_Mo_count 264 = .ok (.iinc 3 1, 3) := by decide +kernel
theorem d_Mo_count_267 : decode b_Mo_count 267 = .ok (.goto (-159), 3) := by decide +kernel
theorem d_Mo_count_270 : decode b_Mo_count 270 = .ok (.iload_n 2, 1) := by decide +kernel
theorem d_Mo_count_271 : decode b_Mo_count 271 = .ok (.ireturn, 1) := by decide +kernel
theorem d_Mo_lay_0 : decode b_Mo_lay 0 = .ok (.aload_n 0, 1) := by decide +kernel
theorem d_Mo_lay_1 : decode b_Mo_lay 1 = .ok (.getfield 98, 3) := by decide +kernel
theorem d_Mo_lay_4 : decode b_Mo_lay 4 = .ok (.ifCond .eq 4, 3) := by decide +kernel
theorem d_Mo_lay_7 : decode b_Mo_lay 7 = .ok (.return_, 1) := by decide +kernel
theorem d_Mo_lay_8 : decode b_Mo_lay 8 = .ok (.aload_n 0, 1) := by decide +kernel
theorem d_Mo_lay_9 : decode b_Mo_lay 9 = .ok (.iconst 1, 1) := by decide +kernel
theorem d_Mo_lay_10 : decode b_Mo_lay 10 = .ok (.putfield 98, 3) := by decide +kernel
theorem d_Mo_lay_13 : decode b_Mo_lay 13 = .ok (.aload_n 0, 1) := by decide +kernel
theorem d_Mo_lay_14 : decode b_Mo_lay 14 = .ok (.aload_n 0, 1) := by decide +kernel
theorem d_Mo_lay_15 : decode b_Mo_lay 15 = .ok (.invokevirtual 122, 3) := by decide +kernel
theorem d_Mo_lay_18 : decode b_Mo_lay 18 = .ok (.putfield 157, 3) := by decide +kernel
theorem d_Mo_lay_21 : decode b_Mo_lay 21 = .ok (.iconst 0, 1) := by decide +kernel
theorem d_Mo_lay_22 : decode b_Mo_lay 22 = .ok (.istore_n 1, 1) := by decide +kernel
theorem d_Mo_lay_23 : decode b_Mo_lay 23 = .ok (.iload_n 1, 1) := by decide +kernel
theorem d_Mo_lay_24 : decode b_Mo_lay 24 = .ok (.aload_n 0, 1) := by decide +kernel
theorem d_Mo_lay_25 : decode b_Mo_lay 25 = .ok (.getfield 157, 3) := by decide +kernel
theorem d_Mo_lay_28 : decode b_Mo_lay 28 = .ok (.if_icmp .ge 115, 3) := by decide +kernel
theorem d_Mo_lay_31 : decode b_Mo_lay 31 = .ok (.aload_n 0, 1) := by decide +kernel
theorem d_Mo_lay_32 : decode b_Mo_lay 32 = .ok (.iload_n 1, 1) := by decide +kernel
theorem d_Mo_lay_33 : decode b_Mo_lay 33 = .ok (.invokevirtual 146, 3) := by decide +kernel
theorem d_Mo_lay_36 : decode b_Mo_lay 36 = .ok (.aload_n 0, 1) := by decide +kernel
theorem d_Mo_lay_37 : decode b_Mo_lay 37 = .ok (.getfield 38, 3) := by decide +kernel
theorem d_Mo_lay_40 : decode b_Mo_lay 40 = .ok (.iload_n 1, 1) := by decide +kernel
theorem d_Mo_lay_41 : decode b_Mo_lay 41 = .ok (.aload_n 0, 1) := by decide +kernel
theorem d_Mo_lay_42 : decode b_Mo_lay 42 = .ok (.bipush 12, 2) := by decide +kernel
theorem d_Mo_lay_44 : decode b_Mo_lay 44 = .ok (.invokevirtual 150, 3) := by decide +kernel
theorem d_Mo_lay_47 : decode b_Mo_lay 47 = .ok (.bastore, 1) := by decide +kernel
theorem d_Mo_lay_48 : decode b_Mo_lay 48 = .ok (.aload_n 0, 1) := by decide +kernel
theorem d_Mo_lay_49 : decode b_Mo_lay 49 = .ok (.getfield 42, 3) := by decide +kernel
theorem d_Mo_lay_52 : decode b_Mo_lay 52 = .ok (.iload_n 1, 1) := by decide +kernel
theorem d_Mo_lay_53 : decode b_Mo_lay 53 = .ok (.iconst (-1), 1) := by decide +kernel
theorem d_Mo_lay_54 : decode b_Mo_lay 54 = .ok (.iastore, 1) := by decide +kernel
theorem d_Mo_lay_55 : decode b_Mo_lay 55 = .ok (.iconst 0, 1) := by decide +kernel
theorem d_Mo_lay_56 : decode b_Mo_lay 56 = .ok (.istore_n 2, 1) := by decide +kernel
theorem d_Mo_lay_57 : decode b_Mo_lay 57 = .ok (.iload_n 2, 1) := by decide +kernel
theorem d_Mo_lay_58 : decode b_Mo_lay 58 = .ok (.aload_n 0, 1) := by decide +kernel
theorem d_Mo_lay_59 : decode b_Mo_lay 59 = .ok (.getfield 112, 3) := by decide +kernel
theorem d_Mo_lay_62 : decode b_Mo_lay 62 = .ok (.if_icmp .ge 75, 3) := by decide +kernel
theorem d_Mo_lay_65 : decode b_Mo_lay 65 = .ok (.aload_n 0, 1) := by decide +kernel
theorem d_Mo_lay_66 : decode b_Mo_lay 66 = .ok (.iload_n 2, 1) := by decide +kernel
theorem d_Mo_lay_67 : decode b_Mo_lay 67 = .ok (.invokevirtual 150, 3) := by decide +kernel
theorem d_Mo_lay_70 : decode b_Mo_lay 70 = .ok (.istore_n 3, 1) := by decide +kernel
theorem d_Mo_lay_71 : decode b_Mo_lay 71 = .ok (.iconst 0, 1) := by decide +kernel
theorem d_Mo_lay_72 : decode b_Mo_lay 72 = .ok (.istore 4, 2) := by decide +kernel
theorem d_Mo_lay_74 : decode b_Mo_lay 74 = .ok (.iload 4, 2) := by decide +kernel
theorem d_Mo_lay_76 : decode b_Mo_lay 76 = .ok (.iconst 3, 1) := by decide +kernel
theorem d_Mo_lay_77 : decode b_Mo_lay 77 = .ok (.if_icmp .ge 54, 3) := by decide +kernel
theorem d_Mo_lay_80 : decode b_Mo_lay 80 = .ok (.aload_n 0, 1) := by decide +kernel
theorem d_Mo_lay_81 : decode b_Mo_lay 81 = .ok (.getfield 35, 3) := by decide +kernel
theorem d_Mo_lay_84 : decode b_Mo_lay 84 = .ok (.bipush 36, 2) := by decide +kernel
theorem d_Mo_lay_86 : decode b_Mo_lay 86 = .ok (.iload_n 1, 1) := by decide +kernel
theorem d_Mo_lay_87 : decode b_Mo_lay 87 = .ok (.imul, 1) := by decide +kernel
theorem d_Mo_lay_88 : decode b_Mo_lay 88 = .ok (.iconst 3, 1) := by decide +kernel
theorem d_Mo_lay_89 : decode b_Mo_lay 89 = .ok (.iload_n 2, 1) := by decide +kernel
theorem d_Mo_lay_90 : decode b_Mo_lay 90 = .ok (.imul, 1) := by decide +kernel
theorem d_Mo_lay_91 : decode b_Mo_lay 91 = .ok (.iadd, 1) := by decide +kernel
theorem d_Mo_lay_92 : decode b_Mo_lay 92 = .ok (.iload 4, 2) := by decide +kernel
theorem d_Mo_lay_94 : decode b_Mo_lay 94 = .ok (.iadd, 1) := by decide +kernel
theorem d_Mo_lay_95 : decode b_Mo_lay 95 = .ok (.iload_n 3, 1) := by decide +kernel
theorem d_Mo_lay_96 : decode b_Mo_lay 96 = .ok (.ifCond .eq 27, 3) := by decide +kernel
theorem d_Mo_lay_99 : decode b_Mo_lay 99 = .ok (.iload 4, 2) := by decide +kernel
theorem d_Mo_lay_101 : decode b_Mo_lay 101 = .ok (.aload_n 0, 1) := by decide +kernel
theorem d_Mo_lay_102 : decode b_Mo_lay 102 = .ok (.getfield 13, 3) := by decide +kernel
theorem d_Mo_lay_105 : decode b_Mo_lay 105 = .ok (.iload_n 2, 1) := by decide +kernel
theorem d_Mo_lay_106 : decode b_Mo_lay 106 = .ok (.iaload, 1) := by decide +kernel
theorem d_Mo_lay_107 : decode b_Mo_lay 107 = .ok (.if_icmp .ge 16, 3) := by decide +kernel
theorem d_Mo_lay_110 : decode b_Mo_lay 110 = .ok (.aload_n 0, 1) := by decide +kernel
theorem d_Mo_lay_111 : decode b_Mo_lay 111 = .ok (.iconst 3, 1) := by decide +kernel
theorem d_Mo_lay_112 : decode b_Mo_lay 112 = .ok (.iload_n 2, 1) := by decide +kernel
theorem d_Mo_lay_113 : decode b_Mo_lay 113 = .ok (.imul, 1) := by decide +kernel
theorem d_Mo_lay_114 : decode b_Mo_lay 114 = .ok (.iload 4, 2) := by decide +kernel
theorem d_Mo_lay_116 : decode b_Mo_lay 116 = .ok (.iadd, 1) := by decide +kernel
theorem d_Mo_lay_117 : decode b_Mo_lay 117 = .ok (.invokevirtual 153, 3) := by decide +kernel
theorem d_Mo_lay_120 : decode b_Mo_lay 120 = .ok (.goto 4, 3) := by decide +kernel
theorem d_Mo_lay_123 : decode b_Mo_lay 123 = .ok (.iconst (-1), 1) := by decide +kernel
theorem d_Mo_lay_124 : decode b_Mo_lay 124 = .ok (.iastore, 1) := by decide +kernel
theorem d_Mo_lay_125 : decode b_Mo_lay 125 = .ok (.iinc 4 1, 3) := by decide +kernel
theorem d_Mo_lay_128 : decode b_Mo_lay 128 = .ok (.goto (-54), 3) := by decide +kernel
theorem d_Mo_lay_131 : decode b_Mo_lay 131 = .ok (.iinc 2 1, 3) := by decide +kernel
theorem d_Mo_lay_134 : decode b_Mo_lay 134 = .ok (.goto (-77), 3) := by decide +kernel
theorem d_Mo_lay_137 : decode b_Mo_lay 137 = .ok (.iinc 1 1, 3) := by decide +kernel
theorem d_Mo_lay_140 : decode b_Mo_lay 140 = .ok (.goto (-117), 3) := by decide +kernel
theorem d_Mo_lay_143 : decode b_Mo_lay 143 = .ok (.iconst 0, 1) := by decide +kernel
theorem d_Mo_lay_144 : decode b_Mo_lay 144 = .ok (.istore_n 1, 1) := by decide +kernel
theorem d_Mo_lay_145 : decode b_Mo_lay 145 = .ok (.iconst 0, 1) := by decide +kernel
theorem d_Mo_lay_146 : decode b_Mo_lay 146 = .ok (.istore_n 2, 1) := by decide +kernel
theorem d_Mo_lay_147 : decode b_Mo_lay 147 = .ok (.iload_n 2, 1) := by decide +kernel
theorem d_Mo_lay_148 : decode b_Mo_lay 148 = .ok (.aload_n 0, 1) := by decide +kernel
theorem d_Mo_lay_149 : decode b_Mo_lay 149 = .ok (.getfield 157, 3) := by decide +kernel
theorem d_Mo_lay_152 : decode b_Mo_lay 152 = .ok (.if_icmp .ge 82, 3) := by decide +kernel
theorem d_Mo_lay_155 : decode b_Mo_lay 155 = .ok (.iconst 0, 1) := by decide +kernel
theorem d_Mo_lay_156 : decode b_Mo_lay 156 = .ok (.istore_n 3, 1) := by decide +kernel
theorem d_Mo_lay_157 : decode b_Mo_lay 157 = .ok (.iload_n 3, 1) := by decide +kernel
theorem d_Mo_lay_158 : decode b_Mo_lay 158 = .ok (.iconst 3, 1) := by decide +kernel
theorem d_Mo_lay_159 : decode b_Mo_lay 159 = .ok (.aload_n 0, 1) := by decide +kernel
theorem d_Mo_lay_160 : decode b_Mo_lay 160 = .ok (.getfield 112, 3) := by decide +kernel
theorem d_Mo_lay_163 : decode b_Mo_lay 163 = .ok (.imul, 1) := by decide +kernel
theorem d_Mo_lay_164 : decode b_Mo_lay 164 = .ok (.if_icmp .ge 64, 3) := by decide +kernel
theorem d_Mo_lay_167 : decode b_Mo_lay 167 = .ok (.aload_n 0, 1) := by decide +kernel
theorem d_Mo_lay_168 : decode b_Mo_lay 168 = .ok (.getfield 35, 3) := by decide +kernel
theorem d_Mo_lay_171 : decode b_Mo_lay 171 = .ok (.bipush 36, 2) := by decide +kernel
theorem d_Mo_lay_173 : decode b_Mo_lay 173 = .ok (.iload_n 2, 1) := by decide +kernel
theorem d_Mo_lay_174 : decode b_Mo_lay 174 = .ok (.imul, 1) := by decide +kernel
theorem d_Mo_lay_175 : decode b_Mo_lay 175 = .ok (.iload_n 3, 1) := by decide +kernel
theorem d_Mo_lay_176 : decode b_Mo_lay 176 = .ok (.iadd, 1) := by decide +kernel
theorem d_Mo_lay_177 : decode b_Mo_lay 177 = .ok (.iaload, 1) := by decide +kernel
theorem d_Mo_lay_178 : decode b_Mo_lay 178 = .ok (.istore 4, 2) := by decide +kernel
theorem d_Mo_lay_180 : decode b_Mo_lay 180 = .ok (.iload 4, 2) := by decide +kernel
theorem d_Mo_lay_182 : decode b_Mo_lay 182 = .ok (.iconst (-1), 1) := by decide +kernel
theorem d_Mo_lay_183 : decode b_Mo_lay 183 = .ok (.if_icmp .eq 39, 3) := by decide +kernel
theorem d_Mo_lay_186 : decode b_Mo_lay 186 = .ok (.aload_n 0, 1) := by decide +kernel
theorem d_Mo_lay_187 : decode b_Mo_lay 187 = .ok (.getfield 45, 3) := by decide +kernel
theorem d_Mo_lay_190 : decode b_Mo_lay 190 = .ok (.iload_n 1, 1) := by decide +kernel
theorem d_Mo_lay_191 : decode b_Mo_lay 191 = .ok (.bipush 36, 2) := by decide +kernel
theorem d_Mo_lay_193 : decode b_Mo_lay 193 = .ok (.iload_n 2, 1) := by decide +kernel
theorem d_Mo_lay_194 : decode b_Mo_lay 194 = .ok (.imul, 1) := by decide +kernel
theorem d_Mo_lay_195 : decode b_Mo_lay 195 = .ok (.iload_n 3, 1) := by decide +kernel
theorem d_Mo_lay_196 : decode b_Mo_lay 196 = .ok (.iadd, 1) := by decide +kernel
theorem d_Mo_lay_197 : decode b_Mo_lay 197 = .ok (.iastore, 1) := by decide +kernel
theorem d_Mo_lay_198 : decode b_Mo_lay 198 = .ok (.aload_n 0, 1) := by decide +kernel
theorem d_Mo_lay_199 : decode b_Mo_lay 199 = .ok (.getfield 48, 3) := by decide +kernel
theorem d_Mo_lay_202 : decode b_Mo_lay 202 = .ok (.iload_n 1, 1) := by decide +kernel
theorem d_Mo_lay_203 : decode b_Mo_lay 203 = .ok (.aload_n 0, 1) := by decide +kernel
theorem d_Mo_lay_204 : decode b_Mo_lay 204 = .ok (.getfield 42, 3) := by decide +kernel
theorem d_Mo_lay_207 : decode b_Mo_lay 207 = .ok (.iload 4, 2) := by decide +kernel
theorem d_Mo_lay_209 : decode b_Mo_lay 209 = .ok (.iaload, 1) := by decide +kernel
theorem d_Mo_lay_210 : decode b_Mo_lay 210 = .ok (.iastore, 1) := by decide +kernel
theorem d_Mo_lay_211 : decode b_Mo_lay 211 = .ok (.aload_n 0, 1) := by decide +kernel
theorem d_Mo_lay_212 : decode b_Mo_lay 212 = .ok (.getfield 42, 3) := by decide +kernel
theorem d_Mo_lay_215 : decode b_Mo_lay 215 = .ok (.iload 4, 2) := by decide +kernel
theorem d_Mo_lay_217 : decode b_Mo_lay 217 = .ok (.iload_n 1, 1) := by decide +kernel
theorem d_Mo_lay_218 : decode b_Mo_lay 218 = .ok (.iastore, 1) := by decide +kernel
theorem d_Mo_lay_219 : decode b_Mo_lay 219 = .ok (.iinc 1 1, 3) := by decide +kernel
theorem d_Mo_lay_222 : decode b_Mo_lay 222 = .ok (.iinc 3 1, 3) := by decide +kernel
theorem d_Mo_lay_225 : decode b_Mo_lay 225 = .ok (.goto (-68), 3) := by decide +kernel
theorem d_Mo_lay_228 : decode b_Mo_lay 228 = .ok (.iinc 2 1, 3) := by decide +kernel
theorem d_Mo_lay_231 : decode b_Mo_lay 231 = .ok (.goto (-84), 3) := by decide +kernel
theorem d_Mo_lay_234 : decode b_Mo_lay 234 = .ok (.aload_n 0, 1) := by decide +kernel
theorem d_Mo_lay_235 : decode b_Mo_lay 235 = .ok (.invokevirtual 160, 3) := by decide +kernel
theorem d_Mo_lay_238 : decode b_Mo_lay 238 = .ok (.aload_n 0, 1) := by decide +kernel
theorem d_Mo_lay_239 : decode b_Mo_lay 239 = .ok (.invokevirtual 163, 3) := by decide +kernel
theorem d_Mo_lay_242 : decode b_Mo_lay 242 = .ok (.aload_n 0, 1) := by decide +kernel
theorem d_Mo_lay_243 : decode b_Mo_lay 243 = .ok (.invokevirtual 166, 3) := by decide +kernel
theorem d_Mo_lay_246 : decode b_Mo_lay 246 = .ok (.aload_n 0, 1) := by decide +kernel
theorem d_Mo_lay_247 : decode b_Mo_lay 247 = .ok (.invokevirtual 169, 3) := by decide +kernel
theorem d_Mo_lay_250 : decode b_Mo_lay 250 = .ok (.return_, 1) := by decide +kernel
theorem d_Mo_forward_0 : decode b_Mo_forward 0 = .ok (.iconst 0, 1) := by decide +kernel
theorem d_Mo_forward_1 : decode b_Mo_forward 1 = .ok (.istore_n 1, 1) := by decide +kernel
theorem d_Mo_forward_2 : decode b_Mo_forward 2 = .ok (.iload_n 1, 1) := by decide +kernel
theorem d_Mo_forward_3 : decode b_Mo_forward 3 = .ok (.aload_n 0, 1) := by decide +kernel
theorem d_Mo_forward_4 : decode b_Mo_forward 4 = .ok (.getfield 157, 3) := by decide +kernel
theorem d_Mo_forward_7 : decode b_Mo_forward 7 = .ok (.if_icmp .ge 16, 3) := by decide +kernel
theorem d_Mo_forward_10 : decode b_Mo_forward 10 = .ok (.aload_n 0, 1) := by decide +kernel
theorem d_Mo_forward_11 : decode b_Mo_forward 11 = .ok (.getfield 51, 3) := by decide +kernel
theorem d_Mo_forward_14 : decode b_Mo_forward 14 = .ok (.iload_n 1, 1) := by decide +kernel
theorem d_Mo_forward_15 : decode b_Mo_forward 15 = .ok (.iconst (-1), 1) := by decide +kernel
theorem d_Mo_forward_16 : decode b_Mo_forward 16 = .ok (.iastore, 1) := by decide +kernel
theorem d_Mo_forward_17 : decode b_Mo_forward 17 = .ok (.iinc 1 1, 3) := by decide +kernel
theorem d_Mo_forward_20 : decode b_Mo_forward 20 = .ok (.goto (-18), 3) := by decide +kernel
theorem d_Mo_forward_23 : decode b_Mo_forward 23 = .ok (.aload_n 0, 1) := by decide +kernel
theorem d_Mo_forward_24 : decode b_Mo_forward 24 = .ok (.getfield 51, 3) := by decide +kernel
theorem d_Mo_forward_27 : decode b_Mo_forward 27 = .ok (.aload_n 0, 1) := by decide +kernel
theorem d_Mo_forward_28 : decode b_Mo_forward 28 = .ok (.getfield 109, 3) := by decide +kernel
theorem d_Mo_forward_31 : decode b_Mo_forward 31 = .ok (.iconst 0, 1) := by decide +kernel
theorem d_Mo_forward_32 : decode b_Mo_forward 32 = .ok (.iastore, 1) := by decide +kernel
theorem d_Mo_forward_33 : decode b_Mo_forward 33 = .ok (.aload_n 0, 1) := by decide +kernel
theorem d_Mo_forward_34 : decode b_Mo_forward 34 = .ok (.getfield 63, 3) := by decide +kernel
theorem d_Mo_forward_37 : decode b_Mo_forward 37 = .ok (.iconst 0, 1) := by decide +kernel
theorem d_Mo_forward_38 : decode b_Mo_forward 38 = .ok (.aload_n 0, 1) := by decide +kernel
theorem d_Mo_forward_39 : decode b_Mo_forward 39 = .ok (.getfield 109, 3) := by decide +kernel
theorem d_Mo_forward_42 : decode b_Mo_forward 42 = .ok (.iastore, 1) := by decide +kernel
theorem d_Mo_forward_43 : decode b_Mo_forward 43 = .ok (.iconst 1, 1) := by decide +kernel
theorem d_Mo_forward_44 : decode b_Mo_forward 44 = .ok (.istore_n 1, 1) := by decide +kernel
theorem d_Mo_forward_45 : decode b_Mo_forward 45 = .ok (.iconst 0, 1) := by decide +kernel
theorem d_Mo_forward_46 : decode b_Mo_forward 46 = .ok (.istore_n 2, 1) := by decide +kernel
theorem d_Mo_forward_47 : decode b_Mo_forward 47 = .ok (.iload_n 2, 1) := by decide +kernel
theorem d_Mo_forward_48 : decode b_Mo_forward 48 = .ok (.iload_n 1, 1) := by decide +kernel
theorem d_Mo_forward_49 : decode b_Mo_forward 49 = .ok (.if_icmp .ge 93, 3) := by decide +kernel
theorem d_Mo_forward_52 : decode b_Mo_forward 52 = .ok (.aload_n 0, 1) := by decide +kernel
theorem d_Mo_forward_53 : decode b_Mo_forward 53 = .ok (.getfield 63, 3) := by decide +kernel
theorem d_Mo_forward_56 : decode b_Mo_forward 56 = .ok (.iload_n 2, 1) := by decide +kernel
theorem d_Mo_forward_57 : decode b_Mo_forward 57 = .ok (.iaload, 1) := by decide +kernel
theorem d_Mo_forward_58 : decode b_Mo_forward 58 = .ok (.istore_n 3, 1) := by decide +kernel
theorem d_Mo_forward_59 : decode b_Mo_forward 59 = .ok (.iconst 0, 1) := by decide +kernel
theorem d_Mo_forward_60 : decode b_Mo_forward 60 = .ok (.istore 4, 2) := by decide +kernel
theorem d_Mo_forward_62 : decode b_Mo_forward 62 = .ok (.iload 4, 2) := by decide +kernel
theorem d_Mo_forward_64 : decode b_Mo_forward 64 = .ok (.iconst 3, 1) := by decide +kernel
theorem d_Mo_forward_65 : decode b_Mo_forward 65 = .ok (.aload_n 0, 1) := by decide +kernel
theorem d_Mo_forward_66 : decode b_Mo_forward 66 = .ok (.getfield 112, 3) := by decide +kernel
theorem d_Mo_forward_69 : decode b_Mo_forward 69 = .ok (.imul, 1) := by decide +kernel
theorem d_Mo_forward_70 : decode b_Mo_forward 70 = .ok (.if_icmp .ge 66, 3) := by decide +kernel
theorem d_Mo_forward_73 : decode b_Mo_forward 73 = .ok (.aload_n 0, 1) := by decide +kernel
theorem d_Mo_forward_74 : decode b_Mo_forward 74 = .ok (.getfield 35, 3) := by decide +kernel
theorem d_Mo_forward_77 : decode b_Mo_forward 77 = .ok (.bipush 36, 2) := by decide +kernel
theorem d_Mo_forward_79 : decode b_Mo_forward 79 = .ok (.iload_n 3, 1) := by decide +kernel
theorem d_Mo_forward_80 : decode b_Mo_forward 80 = .ok (.imul, 1) := by decide +kernel
theorem d_Mo_forward_81 : decode b_Mo_forward 81 = .ok (.iload 4, 2) := by decide +kernel
theorem d_Mo_forward_83 : decode b_Mo_forward 83 = .ok (.iadd, 1) := by decide +kernel
theorem d_Mo_forward_84 : decode b_Mo_forward 84 = .ok (.iaload, 1) := by decide +kernel
theorem d_Mo_forward_85 : decode b_Mo_forward 85 = .ok (.istore 5, 2) := by decide +kernel
theorem d_Mo_forward_87 : decode b_Mo_forward 87 = .ok (.iload 5, 2) := by decide +kernel
theorem d_Mo_forward_89 : decode b_Mo_forward 89 = .ok (.iconst (-1), 1) := by decide +kernel
theorem d_Mo_forward_90 : decode b_Mo_forward 90 = .ok (.if_icmp .eq 40, 3) := by decide +kernel
theorem d_Mo_forward_93 : decode b_Mo_forward 93 = .ok (.aload_n 0, 1) := by decide +kernel
theorem d_Mo_forward_94 : decode b_Mo_forward 94 = .ok (.getfield 51, 3) := by decide +kernel
theorem d_Mo_forward_97 : decode b_Mo_forward 97 = .ok (.iload 5, 2) := by decide +kernel
theorem d_Mo_forward_99 : decode b_Mo_forward 99 = .ok (.iaload, 1) := by decide +kernel
theorem d_Mo_forward_100 : decode b_Mo_forward 100 = .ok (.iconst (-1), 1) := by decide +kernel
theorem d_Mo_forward_101 : decode b_Mo_forward 101 = .ok (.if_icmp .ne 29, 3) := by decide +kernel
theorem d_Mo_forward_104 : decode b_Mo_forward 104 = .ok (.aload_n 0, 1) := by decide +kernel
theorem d_Mo_forward_105 : decode b_Mo_forward 105 = .ok (.getfield 51, 3) := by decide +kernel
theorem d_Mo_forward_108 : decode b_Mo_forward 108 = .ok (.iload 5, 2) := by decide +kernel
theorem d_Mo_forward_110 : decode b_Mo_forward 110 = .ok (.aload_n 0, 1) := by decide +kernel
theorem d_Mo_forward_111 : decode b_Mo_forward 111 = .ok (.getfield 51, 3) := by decide +kernel
theorem d_Mo_forward_114 : decode b_Mo_forward 114 = .ok (.iload_n 3, 1) := by decide +kernel
theorem d_Mo_forward_115 : decode b_Mo_forward 115 = .ok (.iaload, 1) := by decide +kernel
theorem d_Mo_forward_116 : decode b_Mo_forward 116 = .ok (.iconst 1, 1) := by decide +kernel
theorem d_Mo_forward_117 : decode b_Mo_forward 117 = .ok (.iadd, 1) := by decide +kernel
theorem d_Mo_forward_118 : decode b_Mo_forward 118 = .ok (.iastore, 1) := by decide +kernel
theorem d_Mo_forward_119 : decode b_Mo_forward 119 = .ok (.aload_n 0, 1) := by decide +kernel
theorem d_Mo_forward_120 : decode b_Mo_forward 120 = .ok (.getfield 63, 3) := by decide +kernel
theorem d_Mo_forward_123 : decode b_Mo_forward 123 = .ok (.iload_n 1, 1) := by decide +kernel
theorem d_Mo_forward_124 : decode b_Mo_forward 124 = .ok (.iload 5, 2) := by decide +kernel
theorem d_Mo_forward_126 : decode b_Mo_forward 126 = .ok (.iastore, 1) := by decide +kernel
theorem d_Mo_forward_127 : decode b_Mo_forward 127 = .ok (.iinc 1 1, 3) := by decide +kernel
theorem d_Mo_forward_130 : decode b_Mo_forward 130 = .ok (.iinc 4 1, 3) := by decide +kernel
theorem d_Mo_forward_133 : decode b_Mo_forward 133 = .ok (.goto (-71), 3) := by decide +kernel
theorem d_Mo_forward_136 : decode b_Mo_forward 136 = .ok (.iinc 2 1, 3) := by decide +kernel
theorem d_Mo_forward_139 : decode b_Mo_forward 139 = .ok (.goto (-92), 3) := by decide +kernel
theorem d_Mo_forward_142 : decode b_Mo_forward 142 = .ok (.return_, 1) := by decide +kernel
theorem d_Mo_backward_0 : decode b_Mo_backward 0 = .ok (.aload_n 0, 1) := by decide +kernel
theorem d_Mo_backward_1 : decode b_Mo_backward 1 = .ok (.aload_n 0, 1) := by decide +kernel
theorem d_Mo_backward_2 : decode b_Mo_backward 2 = .ok (.getfield 54, 3) := by decide +kernel
theorem d_Mo_backward_5 : decode b_Mo_backward 5 = .ok (.invokevirtual 172, 3) := by decide +kernel
theorem d_Mo_backward_8 : decode b_Mo_backward 8 = .ok (.istore_n 1, 1) := by decide +kernel
theorem d_Mo_backward_9 : decode b_Mo_backward 9 = .ok (.iconst 0, 1) := by decide +kernel
theorem d_Mo_backward_10 : decode b_Mo_backward 10 = .ok (.istore_n 2, 1) := by decide +kernel
theorem d_Mo_backward_11 : decode b_Mo_backward 11 = .ok (.iload_n 2, 1) := by decide +kernel
theorem d_Mo_backward_12 : decode b_Mo_backward 12 = .ok (.iload_n 1, 1) := by decide +kernel
theorem d_Mo_backward_13 : decode b_Mo_backward 13 = .ok (.if_icmp .ge 89, 3) := by decide +kernel
theorem d_Mo_backward_16 : decode b_Mo_backward 16 = .ok (.aload_n 0, 1) := by decide +kernel
theorem d_Mo_backward_17 : decode b_Mo_backward 17 = .ok (.getfield 42, 3) := by decide +kernel
theorem d_Mo_backward_20 : decode b_Mo_backward 20 = .ok (.aload_n 0, 1) := by decide +kernel
theorem d_Mo_backward_21 : decode b_Mo_backward 21 = .ok (.getfield 63, 3) := by decide +kernel
theorem d_Mo_backward_24 : decode b_Mo_backward 24 = .ok (.iload_n 2, 1) := by decide +kernel
theorem d_Mo_backward_25 : decode b_Mo_backward 25 = .ok (.iaload, 1) := by decide +kernel
theorem d_Mo_backward_26 : decode b_Mo_backward 26 = .ok (.iaload, 1) := by decide +kernel
theorem d_Mo_backward_27 : decode b_Mo_backward 27 = .ok (.istore_n 3, 1) := by decide +kernel
theorem d_Mo_backward_28 : decode b_Mo_backward 28 = .ok (.iload_n 3, 1) := by decide +kernel
theorem d_Mo_backward_29 : decode b_Mo_backward 29 = .ok (.iconst (-1), 1) := by decide +kernel
theorem d_Mo_backward_30 : decode b_Mo_backward 30 = .ok (.if_icmp .eq 66, 3) := by decide +kernel
theorem d_Mo_backward_33 : decode b_Mo_backward 33 = .ok (.aload_n 0, 1) := by decide +kernel
theorem d_Mo_backward_34 : decode b_Mo_backward 34 = .ok (.getfield 45, 3) := by decide +kernel
theorem d_Mo_backward_37 : decode b_Mo_backward 37 = .ok (.iload_n 3, 1) := by decide +kernel
theorem d_Mo_backward_38 : decode b_Mo_backward 38 = .ok (.iaload, 1) := by decide +kernel
theorem d_Mo_backward_39 : decode b_Mo_backward 39 = .ok (.bipush 36, 2) := by decide +kernel
theorem d_Mo_backward_41 : decode b_Mo_backward 41 = .ok (.idiv, 1) := by decide +kernel
theorem d_Mo_backward_42 : decode b_Mo_backward 42 = .ok (.istore 4, 2) := by decide +kernel
theorem d_Mo_backward_44 : decode b_Mo_backward 44 = .ok (.aload_n 0, 1) := by decide +kernel
theorem d_Mo_backward_45 : decode b_Mo_backward 45 = .ok (.getfield 54, 3) := by decide +kernel
theorem d_Mo_backward_48 : decode b_Mo_backward 48 = .ok (.iload 4, 2) := by decide +kernel
theorem d_Mo_backward_50 : decode b_Mo_backward 50 = .ok (.iaload, 1) := by decide +kernel
theorem d_Mo_backward_51 : decode b_Mo_backward 51 = .ok (.iconst (-1), 1) := by decide +kernel
theorem d_Mo_backward_52 : decode b_Mo_backward 52 = .ok (.if_icmp .ne 34, 3) := by decide +kernel
theorem d_Mo_backward_55 : decode b_Mo_backward 55 = .ok (.aload_n 0, 1) := by decide +kernel
theorem d_Mo_backward_56 : decode b_Mo_backward 56 = .ok (.getfield 54, 3) := by decide +kernel
theorem d_Mo_backward_59 : decode b_Mo_backward 59 = .ok (.iload 4, 2) := by decide +kernel
theorem d_Mo_backward_61 : decode b_Mo_backward 61 = .ok (.aload_n 0, 1) := by decide +kernel
theorem d_Mo_backward_62 : decode b_Mo_backward 62 = .ok (.getfield 54, 3) := by decide +kernel
theorem d_Mo_backward_65 : decode b_Mo_backward 65 = .ok (.aload_n 0, 1) := by decide +kernel
theorem d_Mo_backward_66 : decode b_Mo_backward 66 = .ok (.getfield 63, 3) := by decide +kernel
theorem d_Mo_backward_69 : decode b_Mo_backward 69 = .ok (.iload_n 2, 1) := by decide +kernel
theorem d_Mo_backward_70 : decode b_Mo_backward 70 = .ok (.iaload, 1) := by decide +kernel
theorem d_Mo_backward_71 : decode b_Mo_backward 71 = .ok (.iaload, 1) := by decide +kernel
theorem d_Mo_backward_72 : decode b_Mo_backward 72 = .ok (.iconst 1, 1) := by decide +kernel
theorem d_Mo_backward_73 : decode b_Mo_backward 73 = .ok (.iadd, 1) := by decide +kernel
theorem d_Mo_backward_74 : decode b_Mo_backward 74 = .ok (.iastore, 1) := by decide +kernel
theorem d_Mo_backward_75 : decode b_Mo_backward 75 = .ok (.aload_n 0, 1) := by decide +kernel
theorem d_Mo_backward_76 : decode b_Mo_backward 76 = .ok (.getfield 63, 3) := by decide +kernel
theorem d_Mo_backward_79 : decode b_Mo_backward 79 = .ok (.iload_n 1, 1) := by decide +kernel
theorem d_Mo_backward_80 : decode b_Mo_backward 80 = .ok (.iload 4, 2) := by decide +kernel
theorem d_Mo_backward_82 : decode b_Mo_backward 82 = .ok (.iastore, 1) := by decide +kernel
theorem d_Mo_backward_83 : decode b_Mo_backward 83 = .ok (.iinc 1 1, 3) := by decide +kernel
theorem d_Mo_backward_86 : decode b_Mo_backward 86 = .ok (.aload_n 0, 1) := by decide +kernel
theorem d_Mo_backward_87 : decode b_Mo_backward 87 = .ok (.getfield 48, 3) := by decide +kernel
theorem d_Mo_backward_90 : decode b_Mo_backward 90 = .ok (.iload_n 3, 1) := by decide +kernel
theorem d_Mo_backward_91 : decode b_Mo_backward 91 = .ok (.iaload, 1) := by decide +kernel
theorem d_Mo_backward_92 : decode b_Mo_backward 92 = .ok (.istore_n 3, 1) := by decide +kernel
theorem d_Mo_backward_93 : decode b_Mo_backward 93 = .ok (.goto (-65), 3) := by decide +kernel
theorem d_Mo_backward_96 : decode b_Mo_backward 96 = .ok (.iinc 2 1, 3) := by decide +kernel
theorem d_Mo_backward_99 : decode b_Mo_backward 99 = .ok (.goto (-88), 3) := by decide +kernel
theorem d_Mo_backward_102 : decode b_Mo_backward 102 = .ok (.return_, 1) := by decide +kernel
theorem d_Mo_aims_0 : decode b_Mo_aims 0 = .ok (.iconst 0, 1) := by decide +kernel
theorem d_Mo_aims_1 : decode b_Mo_aims 1 = .ok (.istore_n 2, 1) := by decide +kernel
theorem d_Mo_aims_2 : decode b_Mo_aims 2 = .ok (.iconst 0, 1) := by decide +kernel
theorem d_Mo_aims_3 : decode b_Mo_aims 3 = .ok (.istore_n 3, 1) := by decide +kernel
theorem d_Mo_aims_4 : decode b_Mo_aims 4 = .ok (.iload_n 3, 1) := by decide +kernel
theorem d_Mo_aims_5 : decode b_Mo_aims 5 = .ok (.aload_n 0, 1) := by decide +kernel
theorem d_Mo_aims_6 : decode b_Mo_aims 6 = .ok (.getfield 157, 3) := by decide +kernel
theorem d_Mo_aims_9 : decode b_Mo_aims 9 = .ok (.if_icmp .ge 45, 3) := by decide +kernel
theorem d_Mo_aims_12 : decode b_Mo_aims 12 = .ok (.aload_n 1, 1) := by decide +kernel
theorem d_Mo_aims_13 : decode b_Mo_aims 13 = .ok (.iload_n 3, 1) := by decide +kernel
theorem d_Mo_aims_14 : decode b_Mo_aims 14 = .ok (.aload_n 0, 1) := by decide +kernel
theorem d_Mo_aims_15 : decode b_Mo_aims 15 = .ok (.getfield 38, 3) := by decide +kernel
theorem d_Mo_aims_18 : decode b_Mo_aims 18 = .ok (.iload_n 3, 1) := by decide +kernel
theorem d_Mo_aims_19 : decode b_Mo_aims 19 = .ok (.baload, 1) := by decide +kernel
theorem d_Mo_aims_20 : decode b_Mo_aims 20 = .ok (.ifCond .eq 7, 3) := by decide +kernel
theorem d_Mo_aims_23 : decode b_Mo_aims 23 = .ok (.iconst 0, 1) := by decide +kernel
theorem d_Mo_aims_24 : decode b_Mo_aims 24 = .ok (.goto 4, 3) := by decide +kernel
theorem d_Mo_aims_27 : decode b_Mo_aims 27 = .ok (.iconst (-1), 1) := by decide +kernel
theorem d_Mo_aims_28 : decode b_Mo_aims 28 = .ok (.iastore, 1) := by decide +kernel
theorem d_Mo_aims_29 : decode b_Mo_aims 29 = .ok (.aload_n 0, 1) := by decide +kernel
theorem d_Mo_aims_30 : decode b_Mo_aims 30 = .ok (.getfield 38, 3) := by decide +kernel
theorem d_Mo_aims_33 : decode b_Mo_aims 33 = .ok (.iload_n 3, 1) := by decide +kernel
theorem d_Mo_aims_34 : decode b_Mo_aims 34 = .ok (.baload, 1) := by decide +kernel
theorem d_Mo_aims_35 : decode b_Mo_aims 35 = .ok (.ifCond .eq 13, 3) := by decide +kernel
theorem d_Mo_aims_38 : decode b_Mo_aims 38 = .ok (.aload_n 0, 1) := by decide +kernel
theorem d_Mo_aims_39 : decode b_Mo_aims 39 = .ok (.getfield 63, 3) := by decide +kernel
theorem d_Mo_aims_42 : decode b_Mo_aims 42 = .ok (.iload_n 2, 1) := by decide +kernel
theorem d_Mo_aims_43 : decode b_Mo_aims 43 = .ok (.iload_n 3, 1) := by decide +kernel
theorem d_Mo_aims_44 : decode b_Mo_aims 44 = .ok (.iastore, 1) := by decide +kernel
theorem d_Mo_aims_45 : decode b_Mo_aims 45 = .ok (.iinc 2 1, 3) := by decide +kernel
theorem d_Mo_aims_48 : decode b_Mo_aims 48 = .ok (.iinc 3 1, 3) := by decide +kernel
theorem d_Mo_aims_51 : decode b_Mo_aims 51 = .ok (.goto (-47), 3) := by decide +kernel
theorem d_Mo_aims_54 : decode b_Mo_aims 54 = .ok (.iload_n 2, 1) := by decide +kernel
theorem d_Mo_aims_55 : decode b_Mo_aims 55 = .ok (.ireturn, 1) := by decide +kernel
theorem d_Mo_surely_0 : decode b_Mo_surely 0 = .ok (.iconst 0, 1) := by decide +kernel
theorem d_Mo_surely_1 : decode b_Mo_surely 1 = .ok (.istore_n 1, 1) := by decide +kernel
theorem d_Mo_surely_2 : decode b_Mo_surely 2 = .ok (.iload_n 1, 1) := by decide +kernel
theorem d_Mo_surely_3 : decode b_Mo_surely 3 = .ok (.aload_n 0, 1) := by decide +kernel
theorem d_Mo_surely_4 : decode b_Mo_surely 4 = .ok (.getfield 157, 3) := by decide +kernel
theorem d_Mo_surely_7 : decode b_Mo_surely 7 = .ok (.if_icmp .ge 42, 3) := by decide +kernel
theorem d_Mo_surely_10 : decode b_Mo_surely 10 = .ok (.iconst 0, 1) := by decide +kernel
theorem d_Mo_surely_11 : decode b_Mo_surely 11 = .ok (.istore_n 2, 1) := by decide +kernel
theorem d_Mo_surely_12 : decode b_Mo_surely 12 = .ok (.iload_n 2, 1) := by decide +kernel
theorem d_Mo_surely_13 : decode b_Mo_surely 13 = .ok (.aload_n 0, 1) := by decide +kernel
theorem d_Mo_surely_14 : decode b_Mo_surely 14 = .ok (.getfield 112, 3) := by decide +kernel
theorem d_Mo_surely_17 : decode b_Mo_surely 17 = .ok (.if_icmp .ge 26, 3) := by decide +kernel
theorem d_Mo_surely_20 : decode b_Mo_surely 20 = .ok (.aload_n 0, 1) := by decide +kernel
theorem d_Mo_surely_21 : decode b_Mo_surely 21 = .ok (.getfield 67, 3) := by decide +kernel
theorem d_Mo_surely_24 : decode b_Mo_surely 24 = .ok (.bipush 12, 2) := by decide +kernel
theorem d_Mo_surely_26 : decode b_Mo_surely 26 = .ok (.iload_n 1, 1) := by decide +kernel
theorem d_Mo_surely_27 : decode b_Mo_surely 27 = .ok (.imul, 1) := by decide +kernel
theorem d_Mo_surely_28 : decode b_Mo_surely 28 = .ok (.iload_n 2, 1) := by decide +kernel
theorem d_Mo_surely_29 : decode b_Mo_surely 29 = .ok (.iadd, 1) := by decide +kernel
theorem d_Mo_surely_30 : decode b_Mo_surely 30 = .ok (.aload_n 0, 1) := by decide +kernel
theorem d_Mo_surely_31 : decode b_Mo_surely 31 = .ok (.getfield 13, 3) := by decide +kernel
theorem d_Mo_surely_34 : decode b_Mo_surely 34 = .ok (.iload_n 2, 1) := by decide +kernel
theorem d_Mo_surely_35 : decode b_Mo_surely 35 = .ok (.iaload, 1) := by decide +kernel
theorem d_Mo_surely_36 : decode b_Mo_surely 36 = .ok (.iastore, 1) := by decide +kernel
theorem d_Mo_surely_37 : decode b_Mo_surely 37 = .ok (.iinc 2 1, 3) := by decide +kernel
theorem d_Mo_surely_40 : decode b_Mo_surely 40 = .ok (.goto (-28), 3) := by decide +kernel
theorem d_Mo_surely_43 : decode b_Mo_surely 43 = .ok (.iinc 1 1, 3) := by decide +kernel
theorem d_Mo_surely_46 : decode b_Mo_surely 46 = .ok (.goto (-44), 3) := by decide +kernel
theorem d_Mo_surely_49 : decode b_Mo_surely 49 = .ok (.aload_n 0, 1) := by decide +kernel
theorem d_Mo_surely_50 : decode b_Mo_surely 50 = .ok (.aload_n 0, 1) := by decide +kernel
theorem d_Mo_surely_51 : decode b_Mo_surely 51 = .ok (.getfield 57, 3) := by decide +kernel
theorem d_Mo_surely_54 : decode b_Mo_surely 54 = .ok (.invokevirtual 172, 3) := by decide +kernel
theorem d_Mo_surely_57 : decode b_Mo_surely 57 = .ok (.istore_n 1, 1) := by decide +kernel
theorem d_Mo_surely_58 : decode b_Mo_surely 58 = .ok (.iconst 0, 1) := by decide +kernel
theorem d_Mo_surely_59 : decode b_Mo_surely 59 = .ok (.istore_n 2, 1) := by decide +kernel
theorem d_Mo_surely_60 : decode b_Mo_surely 60 = .ok (.iload_n 2, 1) := by decide +kernel
theorem d_Mo_surely_61 : decode b_Mo_surely 61 = .ok (.iload_n 1, 1) := by decide +kernel
theorem d_Mo_surely_62 : decode b_Mo_surely 62 = .ok (.if_icmp .ge 135, 3) := by decide +kernel
theorem d_Mo_surely_65 : decode b_Mo_surely 65 = .ok (.aload_n 0, 1) := by decide +kernel
theorem d_Mo_surely_66 : decode b_Mo_surely 66 = .ok (.getfield 42, 3) := by decide +kernel
theorem d_Mo_surely_69 : decode b_Mo_surely 69 = .ok (.aload_n 0, 1) := by decide +kernel
theorem d_Mo_surely_70 : decode b_Mo_surely 70 = .ok (.getfield 63, 3) := by decide +kernel
theorem d_Mo_surely_73 : decode b_Mo_surely 73 = .ok (.iload_n 2, 1) := by decide +kernel
theorem d_Mo_surely_74 : decode b_Mo_surely 74 = .ok (.iaload, 1) := by decide +kernel
theorem d_Mo_surely_75 : decode b_Mo_surely 75 = .ok (.iaload, 1) := by decide +kernel
theorem d_Mo_surely_76 : decode b_Mo_surely 76 = .ok (.istore_n 3, 1) := by decide +kernel
theorem d_Mo_surely_77 : decode b_Mo_surely 77 = .ok (.iload_n 3, 1) := by decide +kernel
theorem d_Mo_surely_78 : decode b_Mo_surely 78 = .ok (.iconst (-1), 1) := by decide +kernel
theorem d_Mo_surely_79 : decode b_Mo_surely 79 = .ok (.if_icmp .eq 112, 3) := by decide +kernel
theorem d_Mo_surely_82 : decode b_Mo_surely 82 = .ok (.aload_n 0, 1) := by decide +kernel
theorem d_Mo_surely_83 : decode b_Mo_surely 83 = .ok (.getfield 45, 3) := by decide +kernel
theorem d_Mo_surely_86 : decode b_Mo_surely 86 = .ok (.iload_n 3, 1) := by decide +kernel
theorem d_Mo_surely_87 : decode b_Mo_surely 87 = .ok (.iaload, 1) := by decide +kernel
theorem d_Mo_surely_88 : decode b_Mo_surely 88 = .ok (.bipush 36, 2) := by decide +kernel
theorem d_Mo_surely_90 : decode b_Mo_surely 90 = .ok (.idiv, 1) := by decide +kernel
theorem d_Mo_surely_91 : decode b_Mo_surely 91 = .ok (.istore 4, 2) := by decide +kernel
theorem d_Mo_surely_93 : decode b_Mo_surely 93 = .ok (.aload_n 0, 1) := by decide +kernel
theorem d_Mo_surely_94 : decode b_Mo_surely 94 = .ok (.getfield 45, 3) := by decide +kernel
theorem d_Mo_surely_97 : decode b_Mo_surely 97 = .ok (.iload_n 3, 1) := by decide +kernel
theorem d_Mo_surely_98 : decode b_Mo_surely 98 = .ok (.iaload, 1) := by decide +kernel
theorem d_Mo_surely_99 : decode b_Mo_surely 99 = .ok (.bipush 36, 2) := by decide +kernel
theorem d_Mo_surely_101 : decode b_Mo_surely 101 = .ok (.irem, 1) := by decide +kernel
theorem d_Mo_surely_102 : decode b_Mo_surely 102 = .ok (.iconst 3, 1) := by decide +kernel
theorem d_Mo_surely_103 : decode b_Mo_surely 103 = .ok (.idiv, 1) := by decide +kernel
theorem d_Mo_surely_104 : decode b_Mo_surely 104 = .ok (.istore 5, 2) := by decide +kernel
theorem d_Mo_surely_106 : decode b_Mo_surely 106 = .ok (.aload_n 0, 1) := by decide +kernel
theorem d_Mo_surely_107 : decode b_Mo_surely 107 = .ok (.getfield 67, 3) := by decide +kernel
theorem d_Mo_surely_110 : decode b_Mo_surely 110 = .ok (.bipush 12, 2) := by decide +kernel
theorem d_Mo_surely_112 : decode b_Mo_surely 112 = .ok (.iload 4, 2) := by decide +kernel
theorem d_Mo_surely_114 : decode b_Mo_surely 114 = .ok (.imul, 1) := by decide +kernel
theorem d_Mo_surely_115 : decode b_Mo_surely 115 = .ok (.iload 5, 2) := by decide +kernel
theorem d_Mo_surely_117 : decode b_Mo_surely 117 = .ok (.iadd, 1) := by decide +kernel
theorem d_Mo_surely_118 : decode b_Mo_surely 118 = .ok (.dup2, 1) := by decide +kernel
theorem d_Mo_surely_119 : decode b_Mo_surely 119 = .ok (.iaload, 1) := by decide +kernel
theorem d_Mo_surely_120 : decode b_Mo_surely 120 = .ok (.iconst 1, 1) := by decide +kernel
theorem d_Mo_surely_121 : decode b_Mo_surely 121 = .ok (.isub, 1) := by decide +kernel
theorem d_Mo_surely_122 : decode b_Mo_surely 122 = .ok (.iastore, 1) := by decide +kernel
theorem d_Mo_surely_123 : decode b_Mo_surely 123 = .ok (.aload_n 0, 1) := by decide +kernel
theorem d_Mo_surely_124 : decode b_Mo_surely 124 = .ok (.getfield 67, 3) := by decide +kernel
theorem d_Mo_surely_127 : decode b_Mo_surely 127 = .ok (.bipush 12, 2) := by decide +kernel
theorem d_Mo_surely_129 : decode b_Mo_surely 129 = .ok (.iload 4, 2) := by decide +kernel
theorem d_Mo_surely_131 : decode b_Mo_surely 131 = .ok (.imul, 1) := by decide +kernel
theorem d_Mo_surely_132 : decode b_Mo_surely 132 = .ok (.iload 5, 2) := by decide +kernel
theorem d_Mo_surely_134 : decode b_Mo_surely 134 = .ok (.iadd, 1) := by decide +kernel
theorem d_Mo_surely_135 : decode b_Mo_surely 135 = .ok (.iaload, 1) := by decide +kernel
theorem d_Mo_surely_136 : decode b_Mo_surely 136 = .ok (.ifCond .ne 45, 3) := by decide +kernel
theorem d_Mo_surely_139 : decode b_Mo_surely 139 = .ok (.aload_n 0, 1) := by decide +kernel
theorem d_Mo_surely_140 : decode b_Mo_surely 140 = .ok (.getfield 57, 3) := by decide +kernel
theorem d_Mo_surely_143 : decode b_Mo_surely 143 = .ok (.iload 4, 2) := by decide +kernel
theorem d_Mo_surely_145 : decode b_Mo_surely 145 = .ok (.iaload, 1) := by decide +kernel
theorem d_Mo_surely_146 : decode b_Mo_surely 146 = .ok (.iconst (-1), 1) := by decide +kernel
theorem d_Mo_surely_147 : decode b_Mo_surely 147 = .ok (.if_icmp .ne 34, 3) := by decide +kernel
theorem d_Mo_surely_150 : decode b_Mo_surely 150 = .ok (.aload_n 0, 1) := by decide +kernel
theorem d_Mo_surely_151 : decode b_Mo_surely 151 = .ok (.getfield 57, 3) := by decide +kernel
theorem d_Mo_surely_154 : decode b_Mo_surely 154 = .ok (.iload 4, 2) := by decide +kernel
theorem d_Mo_surely_156 : decode b_Mo_surely 156 = .ok (.aload_n 0, 1) := by decide +kernel
theorem d_Mo_surely_157 : decode b_Mo_surely 157 = .ok (.getfield 57, 3) := by decide +kernel
theorem d_Mo_surely_160 : decode b_Mo_surely 160 = .ok (.aload_n 0, 1) := by decide +kernel
theorem d_Mo_surely_161 : decode b_Mo_surely 161 = .ok (.getfield 63, 3) := by decide +kernel
theorem d_Mo_surely_164 : decode b_Mo_surely 164 = .ok (.iload_n 2, 1) := by decide +kernel
theorem d_Mo_surely_165 : decode b_Mo_surely 165 = .ok (.iaload, 1) := by decide +kernel
theorem d_Mo_surely_166 : decode b_Mo_surely 166 = .ok (.iaload, 1) := by decide +kernel
theorem d_Mo_surely_167 : decode b_Mo_surely 167 = .ok (.iconst 1, 1) := by decide +kernel
theorem d_Mo_surely_168 : decode b_Mo_surely 168 = .ok (.iadd, 1) := by decide +kernel
theorem d_Mo_surely_169 : decode b_Mo_surely 169 = .ok (.iastore, 1) := by decide +kernel
theorem d_Mo_surely_170 : decode b_Mo_surely 170 = .ok (.aload_n 0, 1) := by decide +kernel
theorem d_Mo_surely_171 : decode b_Mo_surely 171 = .ok (.getfield 63, 3) := by decide +kernel
theorem d_Mo_surely_174 : decode b_Mo_surely 174 = .ok (.iload_n 1, 1) := by decide +kernel
theorem d_Mo_surely_175 : decode b_Mo_surely 175 = .ok (.iload 4, 2) := by decide +kernel
theorem d_Mo_surely_177 : decode b_Mo_surely 177 = .ok (.iastore, 1) := by decide +kernel
theorem d_Mo_surely_178 : decode b_Mo_surely 178 = .ok (.iinc 1 1, 3) := by decide +kernel
theorem d_Mo_surely_181 : decode b_Mo_surely 181 = .ok (.aload_n 0, 1) := by decide +kernel
theorem d_Mo_surely_182 : decode b_Mo_surely 182 = .ok (.getfield 48, 3) := by decide +kernel
theorem d_Mo_surely_185 : decode b_Mo_surely 185 = .ok (.iload_n 3, 1) := by decide +kernel
theorem d_Mo_surely_186 : decode b_Mo_surely 186 = .ok (.iaload, 1) := by decide +kernel
theorem d_Mo_surely_187 : decode b_Mo_surely 187 = .ok (.istore_n 3, 1) := by decide +kernel
theorem d_Mo_surely_188 : decode b_Mo_surely 188 = .ok (.goto (-111), 3) := by decide +kernel
theorem d_Mo_surely_191 : decode b_Mo_surely 191 = .ok (.iinc 2 1, 3) := by decide +kernel
theorem d_Mo_surely_194 : decode b_Mo_surely 194 = .ok (.goto (-134), 3) := by decide +kernel
theorem d_Mo_surely_197 : decode b_Mo_surely 197 = .ok (.return_, 1) := by decide +kernel
theorem d_Mo_fairly_0 : decode b_Mo_fairly 0 = .ok (.iconst 0, 1) := by decide +kernel
theorem d_Mo_fairly_1 : decode b_Mo_fairly 1 = .ok (.istore_n 1, 1) := by decide +kernel
theorem d_Mo_fairly_2 : decode b_Mo_fairly 2 = .ok (.iload_n 1, 1) := by decide +kernel
theorem d_Mo_fairly_3 : decode b_Mo_fairly 3 = .ok (.aload_n 0, 1) := by decide +kernel
theorem d_Mo_fairly_4 : decode b_Mo_fairly 4 = .ok (.getfield 157, 3) := by decide +kernel
theorem d_Mo_fairly_7 : decode b_Mo_fairly 7 = .ok (.if_icmp .ge 16, 3) := by decide +kernel
theorem d_Mo_fairly_10 : decode b_Mo_fairly 10 = .ok (.aload_n 0, 1) := by decide +kernel
theorem d_Mo_fairly_11 : decode b_Mo_fairly 11 = .ok (.getfield 70, 3) := by decide +kernel
theorem d_Mo_fairly_14 : decode b_Mo_fairly 14 = .ok (.iload_n 1, 1) := by decide +kernel
theorem d_Mo_fairly_15 : decode b_Mo_fairly 15 = .ok (.iconst 1, 1) := by decide +kernel
theorem d_Mo_fairly_16 : decode b_Mo_fairly 16 = .ok (.bastore, 1) := by decide +kernel
theorem d_Mo_fairly_17 : decode b_Mo_fairly 17 = .ok (.iinc 1 1, 3) := by decide +kernel
theorem d_Mo_fairly_20 : decode b_Mo_fairly 20 = .ok (.goto (-18), 3) := by decide +kernel
theorem d_Mo_fairly_23 : decode b_Mo_fairly 23 = .ok (.iconst 1, 1) := by decide +kernel
theorem d_Mo_fairly_24 : decode b_Mo_fairly 24 = .ok (.istore_n 1, 1) := by decide +kernel
theorem d_Mo_fairly_25 : decode b_Mo_fairly 25 = .ok (.iload_n 1, 1) := by decide +kernel
theorem d_Mo_fairly_26 : decode b_Mo_fairly 26 = .ok (.ifCond .eq 212, 3) := by decide +kernel
theorem d_Mo_fairly_29 : decode b_Mo_fairly 29 = .ok (.aload_n 0, 1) := by decide +kernel
theorem d_Mo_fairly_30 : decode b_Mo_fairly 30 = .ok (.aload_n 0, 1) := by decide +kernel
theorem d_Mo_fairly_31 : decode b_Mo_fairly 31 = .ok (.getfield 60, 3) := by decide +kernel
theorem d_Mo_fairly_34 : decode b_Mo_fairly 34 = .ok (.invokevirtual 172, 3) := by decide +kernel
theorem d_Mo_fairly_37 : decode b_Mo_fairly 37 = .ok (.istore_n 2, 1) := by decide +kernel
theorem d_Mo_fairly_38 : decode b_Mo_fairly 38 = .ok (.iconst 0, 1) := by decide +kernel
theorem d_Mo_fairly_39 : decode b_Mo_fairly 39 = .ok (.istore_n 3, 1) := by decide +kernel
theorem d_Mo_fairly_40 : decode b_Mo_fairly 40 = .ok (.iload_n 3, 1) := by decide +kernel
theorem d_Mo_fairly_41 : decode b_Mo_fairly 41 = .ok (.iload_n 2, 1) := by decide +kernel
theorem d_Mo_fairly_42 : decode b_Mo_fairly 42 = .ok (.if_icmp .ge 125, 3) := by decide +kernel
theorem d_Mo_fairly_45 : decode b_Mo_fairly 45 = .ok (.aload_n 0, 1) := by decide +kernel
theorem d_Mo_fairly_46 : decode b_Mo_fairly 46 = .ok (.getfield 42, 3) := by decide +kernel
theorem d_Mo_fairly_49 : decode b_Mo_fairly 49 = .ok (.aload_n 0, 1) := by decide +kernel
theorem d_Mo_fairly_50 : decode b_Mo_fairly 50 = .ok (.getfield 63, 3) := by decide +kernel
theorem d_Mo_fairly_53 : decode b_Mo_fairly 53 = .ok (.iload_n 3, 1) := by decide +kernel
theorem d_Mo_fairly_54 : decode b_Mo_fairly 54 = .ok (.iaload, 1) := by decide +kernel
theorem d_Mo_fairly_55 : decode b_Mo_fairly 55 = .ok (.iaload, 1) := by decide +kernel
theorem d_Mo_fairly_56 : decode b_Mo_fairly 56 = .ok (.istore 4, 2) := by decide +kernel
theorem d_Mo_fairly_58 : decode b_Mo_fairly 58 = .ok (.iload 4, 2) := by decide +kernel
theorem d_Mo_fairly_60 : decode b_Mo_fairly 60 = .ok (.iconst (-1), 1) := by decide +kernel
theorem d_Mo_fairly_61 : decode b_Mo_fairly 61 = .ok (.if_icmp .eq 100, 3) := by decide +kernel
theorem d_Mo_fairly_64 : decode b_Mo_fairly 64 = .ok (.aload_n 0, 1) := by decide +kernel
theorem d_Mo_fairly_65 : decode b_Mo_fairly 65 = .ok (.getfield 45, 3) := by decide +kernel
theorem d_Mo_fairly_68 : decode b_Mo_fairly 68 = .ok (.iload 4, 2) := by decide +kernel
theorem d_Mo_fairly_70 : decode b_Mo_fairly 70 = .ok (.iaload, 1) := by decide +kernel
theorem d_Mo_fairly_71 : decode b_Mo_fairly 71 = .ok (.bipush 36, 2) := by decide +kernel
theorem d_Mo_fairly_73 : decode b_Mo_fairly 73 = .ok (.idiv, 1) := by decide +kernel
theorem d_Mo_fairly_74 : decode b_Mo_fairly 74 = .ok (.istore 5, 2) := by decide +kernel
theorem d_Mo_fairly_76 : decode b_Mo_fairly 76 = .ok (.aload_n 0, 1) := by decide +kernel
theorem d_Mo_fairly_77 : decode b_Mo_fairly 77 = .ok (.getfield 60, 3) := by decide +kernel
theorem d_Mo_fairly_80 : decode b_Mo_fairly 80 = .ok (.iload 5, 2) := by decide +kernel
theorem d_Mo_fairly_82 : decode b_Mo_fairly 82 = .ok (.iaload, 1) := by decide +kernel
theorem d_Mo_fairly_83 : decode b_Mo_fairly 83 = .ok (.iconst (-1), 1) := by decide +kernel
theorem d_Mo_fairly_84 : decode b_Mo_fairly 84 = .ok (.if_icmp .ne 65, 3) := by decide +kernel
theorem d_Mo_fairly_87 : decode b_Mo_fairly 87 = .ok (.aload_n 0, 1) := by decide +kernel
theorem d_Mo_fairly_88 : decode b_Mo_fairly 88 = .ok (.getfield 70, 3) := by decide +kernel
theorem d_Mo_fairly_91 : decode b_Mo_fairly 91 = .ok (.iload 5, 2) := by decide +kernel
theorem d_Mo_fairly_93 : decode b_Mo_fairly 93 = .ok (.baload, 1) := by decide +kernel
theorem d_Mo_fairly_94 : decode b_Mo_fairly 94 = .ok (.ifCond .eq 55, 3) := by decide +kernel
theorem d_Mo_fairly_97 : decode b_Mo_fairly 97 = .ok (.aload_n 0, 1) := by decide +kernel
theorem d_Mo_fairly_98 : decode b_Mo_fairly 98 = .ok (.iload 5, 2) := by decide +kernel
theorem d_Mo_fairly_100 : decode b_Mo_fairly 100 = .ok (.aload_n 0, 1) := by decide +kernel
theorem d_Mo_fairly_101 : decode b_Mo_fairly 101 = .ok (.getfield 45, 3) := by decide +kernel
theorem d_Mo_fairly_104 : decode b_Mo_fairly 104 = .ok (.iload 4, 2) := by decide +kernel
theorem d_Mo_fairly_106 : decode b_Mo_fairly 106 = .ok (.iaload, 1) := by decide +kernel
theorem d_Mo_fairly_107 : decode b_Mo_fairly 107 = .ok (.bipush 36, 2) := by decide +kernel
theorem d_Mo_fairly_109 : decode b_Mo_fairly 109 = .ok (.irem, 1) := by decide +kernel
theorem d_Mo_fairly_110 : decode b_Mo_fairly 110 = .ok (.iconst 3, 1) := by decide +kernel
theorem d_Mo_fairly_111 : decode b_Mo_fairly 111 = .ok (.idiv, 1) := by decide +kernel
theorem d_Mo_fairly_112 : decode b_Mo_fairly 112 = .ok (.invokevirtual 176, 3) := by decide +kernel
theorem d_Mo_fairly_115 : decode b_Mo_fairly 115 = .ok (.ifCond .eq 34, 3) := by decide +kernel
theorem d_Mo_fairly_118 : decode b_Mo_fairly 118 = .ok (.aload_n 0, 1) := by decide +kernel
theorem d_Mo_fairly_119 : decode b_Mo_fairly 119 = .ok (.getfield 60, 3) := by decide +kernel
theorem d_Mo_fairly_122 : decode b_Mo_fairly 122 = .ok (.iload 5, 2) := by decide +kernel
theorem d_Mo_fairly_124 : decode b_Mo_fairly 124 = .ok (.aload_n 0, 1) := by decide +kernel
theorem d_Mo_fairly_125 : decode b_Mo_fairly 125 = .ok (.getfield 60, 3) := by decide +kernel
theorem d_Mo_fairly_128 : decode b_Mo_fairly 128 = .ok (.aload_n 0, 1) := by decide +kernel
theorem d_Mo_fairly_129 : decode b_Mo_fairly 129 = .ok (.getfield 63, 3) := by decide +kernel
theorem d_Mo_fairly_132 : decode b_Mo_fairly 132 = .ok (.iload_n 3, 1) := by decide +kernel
theorem d_Mo_fairly_133 : decode b_Mo_fairly 133 = .ok (.iaload, 1) := by decide +kernel
theorem d_Mo_fairly_134 : decode b_Mo_fairly 134 = .ok (.iaload, 1) := by decide +kernel
theorem d_Mo_fairly_135 : decode b_Mo_fairly 135 = .ok (.iconst 1, 1) := by decide +kernel
theorem d_Mo_fairly_136 : decode b_Mo_fairly 136 = .ok (.iadd, 1) := by decide +kernel
theorem d_Mo_fairly_137 : decode b_Mo_fairly 137 = .ok (.iastore, 1) := by decide +kernel
theorem d_Mo_fairly_138 : decode b_Mo_fairly 138 = .ok (.aload_n 0, 1) := by decide +kernel
theorem d_Mo_fairly_139 : decode b_Mo_fairly 139 = .ok (.getfield 63, 3) := by decide +kernel
theorem d_Mo_fairly_142 : decode b_Mo_fairly 142 = .ok (.iload_n 2, 1) := by decide +kernel
theorem d_Mo_fairly_143 : decode b_Mo_fairly 143 = .ok (.iload 5, 2) := by decide +kernel
theorem d_Mo_fairly_145 : decode b_Mo_fairly 145 = .ok (.iastore, 1) := by decide +kernel
theorem d_Mo_fairly_146 : decode b_Mo_fairly 146 = .ok (.iinc 2 1, 3) := by decide +kernel
theorem d_Mo_fairly_149 : decode b_Mo_fairly 149 = .ok (.aload_n 0, 1) := by decide +kernel
theorem d_Mo_fairly_150 : decode b_Mo_fairly 150 = .ok (.getfield 48, 3) := by decide +kernel
theorem d_Mo_fairly_153 : decode b_Mo_fairly 153 = .ok (.iload 4, 2) := by decide +kernel
theorem d_Mo_fairly_155 : decode b_Mo_fairly 155 = .ok (.iaload, 1) := by decide +kernel
theorem d_Mo_fairly_156 : decode b_Mo_fairly 156 = .ok (.istore 4, 2) := by decide +kernel
theorem d_Mo_fairly_158 : decode b_Mo_fairly 158 = .ok (.goto (-100), 3) := by decide +kernel
theorem d_Mo_fairly_161 : decode b_Mo_fairly 161 = .ok (.iinc 3 1, 3) := by decide +kernel
theorem d_Mo_fairly_164 : decode b_Mo_fairly 164 = .ok (.goto (-124), 3) := by decide +kernel
theorem d_Mo_fairly_167 : decode b_Mo_fairly 167 = .ok (.iconst 0, 1) := by decide +kernel
theorem d_Mo_fairly_168 : decode b_Mo_fairly 168 = .ok (.istore_n 1, 1) := by decide +kernel
theorem d_Mo_fairly_169 : decode b_Mo_fairly 169 = .ok (.iconst 0, 1) := by decide +kernel
theorem d_Mo_fairly_170 : decode b_Mo_fairly 170 = .ok (.istore_n 3, 1) := by decide +kernel
theorem d_Mo_fairly_171 : decode b_Mo_fairly 171 = .ok (.iload_n 3, 1) := by decide +kernel
theorem d_Mo_fairly_172 : decode b_Mo_fairly 172 = .ok (.aload_n 0, 1) := by decide +kernel
theorem d_Mo_fairly_173 : decode b_Mo_fairly 173 = .ok (.getfield 157, 3) := by decide +kernel
theorem d_Mo_fairly_176 : decode b_Mo_fairly 176 = .ok (.if_icmp .ge 59, 3) := by decide +kernel
theorem d_Mo_fairly_179 : decode b_Mo_fairly 179 = .ok (.iload_n 1, 1) := by decide +kernel
theorem d_Mo_fairly_180 : decode b_Mo_fairly 180 = .ok (.ifCond .ne 22, 3) := by decide +kernel
theorem d_Mo_fairly_183 : decode b_Mo_fairly 183 = .ok (.aload_n 0, 1) := by decide +kernel
theorem d_Mo_fairly_184 : decode b_Mo_fairly 184 = .ok (.getfield 70, 3) := by decide +kernel
theorem d_Mo_fairly_187 : decode b_Mo_fairly 187 = .ok (.iload_n 3, 1) := by decide +kernel
theorem d_Mo_fairly_188 : decode b_Mo_fairly 188 = .ok (.baload, 1) := by decide +kernel
theorem d_Mo_fairly_189 : decode b_Mo_fairly 189 = .ok (.ifCond .eq 17, 3) := by decide +kernel
theorem d_Mo_fairly_192 : decode b_Mo_fairly 192 = .ok (.aload_n 0, 1) := by decide +kernel
theorem d_Mo_fairly_193 : decode b_Mo_fairly 193 = .ok (.getfield 60, 3) := by decide +kernel
theorem d_Mo_fairly_196 : decode b_Mo_fairly 196 = .ok (.iload_n 3, 1) := by decide +kernel
theorem d_Mo_fairly_197 : decode b_Mo_fairly 197 = .ok (.iaload, 1) := by decide +kernel
theorem d_Mo_fairly_198 : decode b_Mo_fairly 198 = .ok (.iconst (-1), 1) := by decide +kernel
theorem d_Mo_fairly_199 : decode b_Mo_fairly 199 = .ok (.if_icmp .ne 7, 3) := by decide +kernel
theorem d_Mo_fairly_202 : decode b_Mo_fairly 202 = .ok (.iconst 1, 1) := by decide +kernel
theorem d_Mo_fairly_203 : decode b_Mo_fairly 203 = .ok (.goto 4, 3) := by decide +kernel
theorem d_Mo_fairly_206 : decode b_Mo_fairly 206 = .ok (.iconst 0, 1) := by decide +kernel
theorem d_Mo_fairly_207 : decode b_Mo_fairly 207 = .ok (.istore_n 1, 1) := by decide +kernel
theorem d_Mo_fairly_208 : decode b_Mo_fairly 208 = .ok (.aload_n 0, 1) := by decide +kernel
theorem d_Mo_fairly_209 : decode b_Mo_fairly 209 = .ok (.getfield 70, 3) := by decide +kernel
theorem d_Mo_fairly_212 : decode b_Mo_fairly 212 = .ok (.iload_n 3, 1) := by decide +kernel
theorem d_Mo_fairly_213 : decode b_Mo_fairly 213 = .ok (.aload_n 0, 1) := by decide +kernel
theorem d_Mo_fairly_214 : decode b_Mo_fairly 214 = .ok (.getfield 60, 3) := by decide +kernel
theorem d_Mo_fairly_217 : decode b_Mo_fairly 217 = .ok (.iload_n 3, 1) := by decide +kernel
theorem d_Mo_fairly_218 : decode b_Mo_fairly 218 = .ok (.iaload, 1) := by decide +kernel
theorem d_Mo_fairly_219 : decode b_Mo_fairly 219 = .ok (.iconst (-1), 1) := by decide +kernel
theorem d_Mo_fairly_220 : decode b_Mo_fairly 220 = .ok (.if_icmp .eq 7, 3) := by decide +kernel
theorem d_Mo_fairly_223 : decode b_Mo_fairly 223 = .ok (.iconst 1, 1) := by decide +kernel
theorem d_Mo_fairly_224 : decode b_Mo_fairly 224 = .ok (.goto 4, 3) := by decide +kernel
theorem d_Mo_fairly_227 : decode b_Mo_fairly 227 = .ok (.iconst 0, 1) := by decide +kernel
theorem d_Mo_fairly_228 : decode b_Mo_fairly 228 = .ok (.bastore, 1) := by decide +kernel
theorem d_Mo_fairly_229 : decode b_Mo_fairly 229 = .ok (.iinc 3 1, 3) := by decide +kernel
theorem d_Mo_fairly_232 : decode b_Mo_fairly 232 = .ok (.goto (-61), 3) := by decide +kernel
theorem d_Mo_fairly_235 : decode b_Mo_fairly 235 = .ok (.goto (-210), 3) := by decide +kernel
theorem d_Mo_fairly_238 : decode b_Mo_fairly 238 = .ok (.return_, 1) := by decide +kernel
theorem d_Mo_staysWon_0 : decode b_Mo_staysWon 0 = .ok (.iconst 1, 1) := by decide +kernel
theorem d_Mo_staysWon_1 : decode b_Mo_staysWon 1 = .ok (.istore_n 3, 1) := by decide +kernel
theorem d_Mo_staysWon_2 : decode b_Mo_staysWon 2 = .ok (.iconst 0, 1) := by decide +kernel
theorem d_Mo_staysWon_3 : decode b_Mo_staysWon 3 = .ok (.istore 4, 2) := by decide +kernel
theorem d_Mo_staysWon_5 : decode b_Mo_staysWon 5 = .ok (.iload 4, 2) := by decide +kernel
theorem d_Mo_staysWon_7 : decode b_Mo_staysWon 7 = .ok (.aload_n 0, 1) := by decide +kernel
theorem d_Mo_staysWon_8 : decode b_Mo_staysWon 8 = .ok (.getfield 13, 3) := by decide +kernel
theorem d_Mo_staysWon_11 : decode b_Mo_staysWon 11 = .ok (.iload_n 2, 1) := by decide +kernel
theorem d_Mo_staysWon_12 : decode b_Mo_staysWon 12 = .ok (.iaload, 1) := by decide +kernel
theorem d_Mo_staysWon_13 : decode b_Mo_staysWon 13 = .ok (.if_icmp .ge 53, 3) := by decide +kernel
theorem d_Mo_staysWon_16 : decode b_Mo_staysWon 16 = .ok (.aload_n 0, 1) := by decide +kernel
theorem d_Mo_staysWon_17 : decode b_Mo_staysWon 17 = .ok (.getfield 35, 3) := by decide +kernel
theorem d_Mo_staysWon_20 : decode b_Mo_staysWon 20 = .ok (.bipush 36, 2) := by decide +kernel
theorem d_Mo_staysWon_22 : decode b_Mo_staysWon 22 = .ok (.iload_n 1, 1) := by decide +kernel
theorem d_Mo_staysWon_23 : decode b_Mo_staysWon 23 = .ok (.imul, 1) := by decide +kernel
theorem d_Mo_staysWon_24 : decode b_Mo_staysWon 24 = .ok (.iconst 3, 1) := by decide +kernel
theorem d_Mo_staysWon_25 : decode b_Mo_staysWon 25 = .ok (.iload_n 2, 1) := by decide +kernel
theorem d_Mo_staysWon_26 : decode b_Mo_staysWon 26 = .ok (.imul, 1) := by decide +kernel
theorem d_Mo_staysWon_27 : decode b_Mo_staysWon 27 = .ok (.iadd, 1) := by decide +kernel
theorem d_Mo_staysWon_28 : decode b_Mo_staysWon 28 = .ok (.iload 4, 2) := by decide +kernel
theorem d_Mo_staysWon_30 : decode b_Mo_staysWon 30 = .ok (.iadd, 1) := by decide +kernel
theorem d_Mo_staysWon_31 : decode b_Mo_staysWon 31 = .ok (.iaload, 1) := by decide +kernel
theorem d_Mo_staysWon_32 : decode b_Mo_staysWon 32 = .ok (.istore 5, 2) := by decide +kernel
theorem d_Mo_staysWon_34 : decode b_Mo_staysWon 34 = .ok (.iload_n 3, 1) := by decide +kernel
theorem d_Mo_staysWon_35 : decode b_Mo_staysWon 35 = .ok (.ifCond .eq 23, 3) := by decide +kernel
theorem d_Mo_staysWon_38 : decode b_Mo_staysWon 38 = .ok (.iload 5, 2) := by decide +kernel
theorem d_Mo_staysWon_40 : decode b_Mo_staysWon 40 = .ok (.iconst (-1), 1) := by decide +kernel
theorem d_Mo_staysWon_41 : decode b_Mo_staysWon 41 = .ok (.if_icmp .eq 17, 3) := by decide +kernel
theorem d_Mo_staysWon_44 : decode b_Mo_staysWon 44 = .ok (.aload_n 0, 1) := by decide +kernel
theorem d_Mo_staysWon_45 : decode b_Mo_staysWon 45 = .ok (.getfield 70, 3) := by decide +kernel
theorem d_Mo_staysWon_48 : decode b_Mo_staysWon 48 = .ok (.iload 5, 2) := by decide +kernel
theorem d_Mo_staysWon_50 : decode b_Mo_staysWon 50 = .ok (.baload, 1) := by decide +kernel
theorem d_Mo_staysWon_51 : decode b_Mo_staysWon 51 = .ok (.ifCond .eq 7, 3) := by decide +kernel
theorem d_Mo_staysWon_54 : decode b_Mo_staysWon 54 = .ok (.iconst 1, 1) := by decide +kernel
theorem d_Mo_staysWon_55 : decode b_Mo_staysWon 55 = .ok (.goto 4, 3) := by decide +kernel
theorem d_Mo_staysWon_58 : decode b_Mo_staysWon 58 = .ok (.iconst 0, 1) := by decide +kernel
theorem d_Mo_staysWon_59 : decode b_Mo_staysWon 59 = .ok (.istore_n 3, 1) := by decide +kernel
theorem d_Mo_staysWon_60 : decode b_Mo_staysWon 60 = .ok (.iinc 4 1, 3) := by decide +kernel
theorem d_Mo_staysWon_63 : decode b_Mo_staysWon 63 = .ok (.goto (-58), 3) := by decide +kernel
theorem d_Mo_staysWon_66 : decode b_Mo_staysWon 66 = .ok (.iload_n 3, 1) := by decide +kernel
theorem d_Mo_staysWon_67 : decode b_Mo_staysWon 67 = .ok (.ireturn, 1) := by decide +kernel
theorem d_Mo_partAll_0 : decode b_Mo_partAll 0 = .ok (.aload_n 0, 1) := by decide +kernel
theorem d_Mo_partAll_1 : decode b_Mo_partAll 1 = .ok (.invokevirtual 191, 3) := by decide +kernel
theorem d_Mo_partAll_4 : decode b_Mo_partAll 4 = .ok (.aload_n 0, 1) := by decide +kernel
theorem d_Mo_partAll_5 : decode b_Mo_partAll 5 = .ok (.getfield 102, 3) := by decide +kernel
theorem d_Mo_partAll_8 : decode b_Mo_partAll 8 = .ok (.ifCond .eq 4, 3) := by decide +kernel
theorem d_Mo_partAll_11 : decode b_Mo_partAll 11 = .ok (.return_, 1) := by decide +kernel
theorem d_Mo_partAll_12 : decode b_Mo_partAll 12 = .ok (.aload_n 0, 1) := by decide +kernel
theorem d_Mo_partAll_13 : decode b_Mo_partAll 13 = .ok (.iconst 1, 1) := by decide +kernel
theorem d_Mo_partAll_14 : decode b_Mo_partAll 14 = .ok (.putfield 102, 3) := by decide +kernel
theorem d_Mo_partAll_17 : decode b_Mo_partAll 17 = .ok (.iconst 0, 1) := by decide +kernel
theorem d_Mo_partAll_18 : decode b_Mo_partAll 18 = .ok (.istore_n 1, 1) := by decide +kernel
theorem d_Mo_partAll_19 : decode b_Mo_partAll 19 = .ok (.iconst 0, 1) := by decide +kernel
theorem d_Mo_partAll_20 : decode b_Mo_partAll 20 = .ok (.istore_n 2, 1) := by decide +kernel
theorem d_Mo_partAll_21 : decode b_Mo_partAll 21 = .ok (.iload_n 2, 1) := by decide +kernel
theorem d_Mo_partAll_22 : decode b_Mo_partAll 22 = .ok (.aload_n 0, 1) := by decide +kernel
theorem d_Mo_partAll_23 : decode b_Mo_partAll 23 = .ok (.getfield 157, 3) := by decide +kernel
theorem d_Mo_partAll_26 : decode b_Mo_partAll 26 = .ok (.if_icmp .ge 29, 3) := by decide +kernel
theorem d_Mo_partAll_29 : decode b_Mo_partAll 29 = .ok (.aload_n 0, 1) := by decide +kernel
theorem d_Mo_partAll_30 : decode b_Mo_partAll 30 = .ok (.getfield 73, 3) := by decide +kernel
theorem d_Mo_partAll_33 : decode b_Mo_partAll 33 = .ok (.iload_n 2, 1) := by decide +kernel
theorem d_Mo_partAll_34 : decode b_Mo_partAll 34 = .ok (.aload_n 0, 1) := by decide +kernel
theorem d_Mo_partAll_35 : decode b_Mo_partAll 35 = .ok (.getfield 38, 3) := by decide +kernel
theorem d_Mo_partAll_38 : decode b_Mo_partAll 38 = .ok (.iload_n 2, 1) := by decide +kernel
theorem d_Mo_partAll_39 : decode b_Mo_partAll 39 = .ok (.baload, 1) := by decide +kernel
theorem d_Mo_partAll_40 : decode b_Mo_partAll 40 = .ok (.ifCond .eq 7, 3) := by decide +kernel
theorem d_Mo_partAll_43 : decode b_Mo_partAll 43 = .ok (.iconst 1, 1) := by decide +kernel
theorem d_Mo_partAll_44 : decode b_Mo_partAll 44 = .ok (.goto 4, 3) := by decide +kernel
theorem d_Mo_partAll_47 : decode b_Mo_partAll 47 = .ok (.iconst 0, 1) := by decide +kernel
theorem d_Mo_partAll_48 : decode b_Mo_partAll 48 = .ok (.iastore, 1) := by decide +kernel
theorem d_Mo_partAll_49 : decode b_Mo_partAll 49 = .ok (.iinc 2 1, 3) := by decide +kernel
theorem d_Mo_partAll_52 : decode b_Mo_partAll 52 = .ok (.goto (-31), 3) := by decide +kernel
theorem d_Mo_partAll_55 : decode b_Mo_partAll 55 = .ok (.aload_n 0, 1) := by decide +kernel
theorem d_Mo_partAll_56 : decode b_Mo_partAll 56 = .ok (.iconst 1, 1) := by decide +kernel
theorem d_Mo_partAll_57 : decode b_Mo_partAll 57 = .ok (.putfield 194, 3) := by decide +kernel
theorem d_Mo_partAll_60 : decode b_Mo_partAll 60 = .ok (.iconst 1, 1) := by decide +kernel
theorem d_Mo_partAll_61 : decode b_Mo_partAll 61 = .ok (.istore_n 2, 1) := by decide +kernel
theorem d_Mo_partAll_62 : decode b_Mo_partAll 62 = .ok (.iload_n 2, 1) := by decide +kernel
theorem d_Mo_partAll_63 : decode b_Mo_partAll 63 = .ok (.ifCond .eq 237, 3) := by decide +kernel
theorem d_Mo_partAll_66 : decode b_Mo_partAll 66 = .ok (.iconst 0, 1) := by decide +kernel
theorem d_Mo_partAll_67 : decode b_Mo_partAll 67 = .ok (.istore_n 3, 1) := by decide +kernel
theorem d_Mo_partAll_68 : decode b_Mo_partAll 68 = .ok (.iload_n 3, 1) := by decide +kernel
theorem d_Mo_partAll_69 : decode b_Mo_partAll 69 = .ok (.sipush 8192, 3) := by decide +kernel
theorem d_Mo_partAll_72 : decode b_Mo_partAll 72 = .ok (.if_icmp .ge 16, 3) := by decide +kernel
theorem d_Mo_partAll_75 : decode b_Mo_partAll 75 = .ok (.aload_n 0, 1) := by decide +kernel
theorem d_Mo_partAll_76 : decode b_Mo_partAll 76 = .ok (.getfield 83, 3) := by decide +kernel
theorem d_Mo_partAll_79 : decode b_Mo_partAll 79 = .ok (.iload_n 3, 1) := by decide +kernel
theorem d_Mo_partAll_80 : decode b_Mo_partAll 80 = .ok (.iconst (-1), 1) := by decide +kernel
theorem d_Mo_partAll_81 : decode b_Mo_partAll 81 = .ok (.iastore, 1) := by decide +kernel
theorem d_Mo_partAll_82 : decode b_Mo_partAll 82 = .ok (.iinc 3 1, 3) := by decide +kernel
theorem d_Mo_partAll_85 : decode b_Mo_partAll 85 = .ok (.goto (-17), 3) := by decide +kernel
theorem d_Mo_partAll_88 : decode b_Mo_partAll 88 = .ok (.aload_n 0, 1) := by decide +kernel
theorem d_Mo_partAll_89 : decode b_Mo_partAll 89 = .ok (.iconst 0, 1) := by decide +kernel
theorem d_Mo_partAll_90 : decode b_Mo_partAll 90 = .ok (.putfield 194, 3) := by decide +kernel
theorem d_Mo_partAll_93 : decode b_Mo_partAll 93 = .ok (.iconst 0, 1) := by decide +kernel
theorem d_Mo_partAll_94 : decode b_Mo_partAll 94 = .ok (.istore_n 3, 1) := by decide +kernel
theorem d_Mo_partAll_95 : decode b_Mo_partAll 95 = .ok (.iload_n 3, 1) := by decide +kernel
theorem d_Mo_partAll_96 : decode b_Mo_partAll 96 = .ok (.aload_n 0, 1) := by decide +kernel
theorem d_Mo_partAll_97 : decode b_Mo_partAll 97 = .ok (.getfield 157, 3) := by decide +kernel
theorem d_Mo_partAll_100 : decode b_Mo_partAll 100 = .ok (.if_icmp .ge 150, 3) := by decide +kernel
theorem d_Mo_partAll_103 : decode b_Mo_partAll 103 = .ok (.aload_n 0, 1) := by decide +kernel
theorem d_Mo_partAll_104 : decode b_Mo_partAll 104 = .ok (.getfield 79, 3) := by decide +kernel
theorem d_Mo_partAll_107 : decode b_Mo_partAll 107 = .ok (.iload_n 3, 1) := by decide +kernel
theorem d_Mo_partAll_108 : decode b_Mo_partAll 108 = .ok (.aload_n 0, 1) := by decide +kernel
theorem d_Mo_partAll_109 : decode b_Mo_partAll 109 = .ok (.iload_n 3, 1) := by decide +kernel
theorem d_Mo_partAll_110 : decode b_Mo_partAll 110 = .ok (.invokevirtual 197, 3) := by decide +kernel
theorem d_Mo_partAll_113 : decode b_Mo_partAll 113 = .ok (.lastore, 1) := by decide +kernel
theorem d_Mo_partAll_114 : decode b_Mo_partAll 114 = .ok (.aload_n 0, 1) := by decide +kernel
theorem d_Mo_partAll_115 : decode b_Mo_partAll 115 = .ok (.getfield 79, 3) := by decide +kernel
theorem d_Mo_partAll_118 : decode b_Mo_partAll 118 = .ok (.iload_n 3, 1) := by decide +kernel
theorem d_Mo_partAll_119 : decode b_Mo_partAll 119 = .ok (.laload, 1) := by decide +kernel
theorem d_Mo_partAll_120 : decode b_Mo_partAll 120 = .ok (.ldc2_w 201, 3) := by decide +kernel
theorem d_Mo_partAll_123 : decode b_Mo_partAll 123 = .ok (.land, 1) := by decide +kernel
theorem d_Mo_partAll_124 : decode b_Mo_partAll 124 = .ok (.l2i, 1) := by decide +kernel
theorem d_Mo_partAll_125 : decode b_Mo_partAll 125 = .ok (.istore 4, 2) := by decide +kernel
theorem d_Mo_partAll_127 : decode b_Mo_partAll 127 = .ok (.aload_n 0, 1) := by decide +kernel
theorem d_Mo_partAll_128 : decode b_Mo_partAll 128 = .ok (.getfield 83, 3) := by decide +kernel
theorem d_Mo_partAll_131 : decode b_Mo_partAll 131 = .ok (.iload 4, 2) := by decide +kernel
theorem d_Mo_partAll_133 : decode b_Mo_partAll 133 = .ok (.iaload, 1) := by decide +kernel
theorem d_Mo_partAll_134 : decode b_Mo_partAll 134 = .ok (.istore 5, 2) := by decide +kernel
theorem d_Mo_partAll_136 : decode b_Mo_partAll 136 = .ok (.iload 5, 2) := by decide +kernel
theorem d_Mo_partAll_138 : decode b_Mo_partAll 138 = .ok (.iconst (-1), 1) := by decide +kernel
theorem d_Mo_partAll_139 : decode b_Mo_partAll 139 = .ok (.if_icmp .eq 42, 3) := by decide +kernel
theorem d_Mo_partAll_142 : decode b_Mo_partAll 142 = .ok (.aload_n 0, 1) := by decide +kernel
theorem d_Mo_partAll_143 : decode b_Mo_partAll 143 = .ok (.getfield 79, 3) := by decide +kernel
theorem d_Mo_partAll_146 : decode b_Mo_partAll 146 = .ok (.iload 5, 2) := by decide +kernel
theorem d_Mo_partAll_148 : decode b_Mo_partAll 148 = .ok (.laload, 1) := by decide +kernel
theorem d_Mo_partAll_149 : decode b_Mo_partAll 149 = .ok (.aload_n 0, 1) := by decide +kernel
theorem d_Mo_partAll_150 : decode b_Mo_partAll 150 = .ok (.getfield 79, 3) := by decide +kernel
theorem d_Mo_partAll_153 : decode b_Mo_partAll 153 = .ok (.iload_n 3, 1) := by decide +kernel
theorem d_Mo_partAll_154 : decode b_Mo_partAll 154 = .ok (.laload, 1) := by decide +kernel
theorem d_Mo_partAll_155 : decode b_Mo_partAll 155 = .ok (.lcmp, 1) := by decide +kernel
theorem d_Mo_partAll_156 : decode b_Mo_partAll 156 = .ok (.ifCond .ne 13, 3) := by decide +kernel
theorem d_Mo_partAll_159 : decode b_Mo_partAll 159 = .ok (.aload_n 0, 1) := by decide +kernel
theorem d_Mo_partAll_160 : decode b_Mo_partAll 160 = .ok (.iload_n 3, 1) := by decide +kernel
theorem d_Mo_partAll_161 : decode b_Mo_partAll 161 = .ok (.iload 5, 2) := by decide +kernel
theorem d_Mo_partAll_163 : decode b_Mo_partAll 163 = .ok (.invokevirtual 203, 3) := by decide +kernel
theorem d_Mo_partAll_166 : decode b_Mo_partAll 166 = .ok (.ifCond .ne 15, 3) := by decide +kernel
theorem d_Mo_partAll_169 : decode b_Mo_partAll 169 = .ok (.aload_n 0, 1) := by decide +kernel
theorem d_Mo_partAll_170 : decode b_Mo_partAll 170 = .ok (.getfield 86, 3) := by decide +kernel
theorem d_Mo_partAll_173 : decode b_Mo_partAll 173 = .ok (.iload 5, 2) := by decide +kernel
theorem d_Mo_partAll_175 : decode b_Mo_partAll 175 = .ok (.iaload, 1) := by decide +kernel
theorem d_Mo_partAll_176 : decode b_Mo_partAll 176 = .ok (.istore 5, 2) := by decide +kernel
theorem d_Mo_partAll_178 : decode b_Mo_partAll 178 = .ok (.goto (-42), 3) := by decide +kernel
theorem d_Mo_partAll_181 : decode b_Mo_partAll 181 = .ok (.iload 5, 2) := by decide +kernel
theorem d_Mo_partAll_183 : decode b_Mo_partAll 183 = .ok (.iconst (-1), 1) := by decide +kernel
theorem d_Mo_partAll_184 : decode b_Mo_partAll 184 = .ok (.if_icmp .ne 47, 3) := by decide +kernel
theorem d_Mo_partAll_187 : decode b_Mo_partAll 187 = .ok (.aload_n 0, 1) := by decide +kernel
theorem d_Mo_partAll_188 : decode b_Mo_partAll 188 = .ok (.getfield 76, 3) := by decide +kernel
theorem d_Mo_partAll_191 : decode b_Mo_partAll 191 = .ok (.iload_n 3, 1) := by decide +kernel
theorem d_Mo_partAll_192 : decode b_Mo_partAll 192 = .ok (.aload_n 0, 1) := by decide +kernel
theorem d_Mo_partAll_193 : decode b_Mo_partAll 193 = .ok (.getfield 194, 3) := by decide +kernel
theorem d_Mo_partAll_196 : decode b_Mo_partAll 196 = .ok (.iastore, 1) := by decide +kernel
theorem d_Mo_partAll_197 : decode b_Mo_partAll 197 = .ok (.aload_n 0, 1) := by decide +kernel
theorem d_Mo_partAll_198 : decode b_Mo_partAll 198 = .ok (.dup, 1) := by decide +kernel
theorem d_Mo_partAll_199 : decode b_Mo_partAll 199 = .ok (.getfield 194, 3) := by decide +kernel
theorem d_Mo_partAll_202 : decode b_Mo_partAll 202 = .ok (.iconst 1, 1) := by decide +kernel
theorem d_Mo_partAll_203 : decode b_Mo_partAll 203 = .ok (.iadd, 1) := by decide +kernel
theorem d_Mo_partAll_204 : decode b_Mo_partAll 204 = .ok (.putfield 194, 3) := by decide +kernel
theorem d_Mo_partAll_207 : decode b_Mo_partAll 207 = .ok (.aload_n 0, 1) := by decide +kernel
theorem d_Mo_partAll_208 : decode b_Mo_partAll 208 = .ok (.getfield 86, 3) := by decide +kernel
theorem d_Mo_partAll_211 : decode b_Mo_partAll 211 = .ok (.iload_n 3, 1) := by decide +kernel
theorem d_Mo_partAll_212 : decode b_Mo_partAll 212 = .ok (.aload_n 0, 1) := by decide +kernel
theorem d_Mo_partAll_213 : decode b_Mo_partAll 213 = .ok (.getfield 83, 3) := by decide +kernel
theorem d_Mo_partAll_216 : decode b_Mo_partAll 216 = .ok (.iload 4, 2) := by decide +kernel
theorem d_Mo_partAll_218 : decode b_Mo_partAll 218 = .ok (.iaload, 1) := by decide +kernel
theorem d_Mo_partAll_219 : decode b_Mo_partAll 219 = .ok (.iastore, 1) := by decide +kernel
theorem d_Mo_partAll_220 : decode b_Mo_partAll 220 = .ok (.aload_n 0, 1) := by decide +kernel
theorem d_Mo_partAll_221 : decode b_Mo_partAll 221 = .ok (.getfield 83, 3) := by decide +kernel
theorem d_Mo_partAll_224 : decode b_Mo_partAll 224 = .ok (.iload 4, 2) := by decide +kernel
theorem d_Mo_partAll_226 : decode b_Mo_partAll 226 = .ok (.iload_n 3, 1) := by decide +kernel
theorem d_Mo_partAll_227 : decode b_Mo_partAll 227 = .ok (.iastore, 1) := by decide +kernel
theorem d_Mo_partAll_228 : decode b_Mo_partAll 228 = .ok (.goto 16, 3) := by decide +kernel
theorem d_Mo_partAll_231 : decode b_Mo_partAll 231 = .ok (.aload_n 0, 1) := by decide +kernel
theorem d_Mo_partAll_232 : decode b_Mo_partAll 232 = .ok (.getfield 76, 3) := by decide +kernel
theorem d_Mo_partAll_235 : decode b_Mo_partAll 235 = .ok (.iload_n 3, 1) := by decide +kernel
theorem d_Mo_partAll_236 : decode b_Mo_partAll 236 = .ok (.aload_n 0, 1) := by decide +kernel
theorem d_Mo_partAll_237 : decode b_Mo_partAll 237 = .ok (.getfield 76, 3) := by decide +kernel
theorem d_Mo_partAll_240 : decode b_Mo_partAll 240 = .ok (.iload 5, 2) := by decide +kernel
theorem d_Mo_partAll_242 : decode b_Mo_partAll 242 = .ok (.iaload, 1) := by decide +kernel
theorem d_Mo_partAll_243 : decode b_Mo_partAll 243 = .ok (.iastore, 1) := by decide +kernel
theorem d_Mo_partAll_244 : decode b_Mo_partAll 244 = .ok (.iinc 3 1, 3) := by decide +kernel
theorem d_Mo_partAll_247 : decode b_Mo_partAll 247 = .ok (.goto (-152), 3) := by decide +kernel
theorem d_Mo_partAll_250 : decode b_Mo_partAll 250 = .ok (.iconst 0, 1) := by decide +kernel
theorem d_Mo_partAll_251 : decode b_Mo_partAll 251 = .ok (.istore_n 3, 1) := by decide +kernel
theorem d_Mo_partAll_252 : decode b_Mo_partAll 252 = .ok (.iload_n 3, 1) := by decide +kernel
theorem d_Mo_partAll_253 : decode b_Mo_partAll 253 = .ok (.aload_n 0, 1) := by decide +kernel
theorem d_Mo_partAll_254 : decode b_Mo_partAll 254 = .ok (.getfield 157, 3) := by decide +kernel
theorem d_Mo_partAll_257 : decode b_Mo_partAll 257 = .ok (.if_icmp .ge 21, 3) := by decide +kernel
theorem d_Mo_partAll_260 : decode b_Mo_partAll 260 = .ok (.aload_n 0, 1) := by decide +kernel
theorem d_Mo_partAll_261 : decode b_Mo_partAll 261 = .ok (.getfield 73, 3) := by decide +kernel
theorem d_Mo_partAll_264 : decode b_Mo_partAll 264 = .ok (.iload_n 3, 1) := by decide +kernel
theorem d_Mo_partAll_265 : decode b_Mo_partAll 265 = .ok (.aload_n 0, 1) := by decide +kernel
theorem d_Mo_partAll_266 : decode b_Mo_partAll 266 = .ok (.getfield 76, 3) := by decide +kernel
theorem d_Mo_partAll_269 : decode b_Mo_partAll 269 = .ok (.iload_n 3, 1) := by decide +kernel
theorem d_Mo_partAll_270 : decode b_Mo_partAll 270 = .ok (.iaload, 1) := by decide +kernel
theorem d_Mo_partAll_271 : decode b_Mo_partAll 271 = .ok (.iastore, 1) := by decide +kernel
theorem d_Mo_partAll_272 : decode b_Mo_partAll 272 = .ok (.iinc 3 1, 3) := by decide +kernel
theorem d_Mo_partAll_275 : decode b_Mo_partAll 275 = .ok (.goto (-23), 3) := by decide +kernel
theorem d_Mo_partAll_278 : decode b_Mo_partAll 278 = .ok (.aload_n 0, 1) := by decide +kernel
theorem d_Mo_partAll_279 : decode b_Mo_partAll 279 = .ok (.getfield 194, 3) := by decide +kernel
theorem d_Mo_partAll_282 : decode b_Mo_partAll 282 = .ok (.iload_n 1, 1) := by decide +kernel
theorem d_Mo_partAll_283 : decode b_Mo_partAll 283 = .ok (.if_icmp .eq 7, 3) := by decide +kernel
theorem d_Mo_partAll_286 : decode b_Mo_partAll 286 = .ok (.iconst 1, 1) := by decide +kernel
theorem d_Mo_partAll_287 : decode b_Mo_partAll 287 = .ok (.goto 4, 3) := by decide +kernel
theorem d_Mo_partAll_290 : decode b_Mo_partAll 290 = .ok (.iconst 0, 1) := by decide +kernel
theorem d_Mo_partAll_291 : decode b_Mo_partAll 291 = .ok (.istore_n 2, 1) := by decide +kernel
theorem d_Mo_partAll_292 : decode b_Mo_partAll 292 = .ok (.aload_n 0, 1) := by decide +kernel
theorem d_Mo_partAll_293 : decode b_Mo_partAll 293 = .ok (.getfield 194, 3) := by decide +kernel
theorem d_Mo_partAll_296 : decode b_Mo_partAll 296 = .ok (.istore_n 1, 1) := by decide +kernel
theorem d_Mo_partAll_297 : decode b_Mo_partAll 297 = .ok (.goto (-235), 3) := by decide +kernel
theorem d_Mo_partAll_300 : decode b_Mo_partAll 300 = .ok (.return_, 1) := by decide +kernel
theorem d_Mo_signOf_0 : decode b_Mo_signOf 0 = .ok (.aload_n 0, 1) := by decide +kernel
theorem d_Mo_signOf_1 : decode b_Mo_signOf 1 = .ok (.getfield 73, 3) := by decide +kernel
theorem d_Mo_signOf_4 : decode b_Mo_signOf 4 = .ok (.iload_n 1, 1) := by decide +kernel
theorem d_Mo_signOf_5 : decode b_Mo_signOf 5 = .ok (.iaload, 1) := by decide +kernel
theorem d_Mo_signOf_6 : decode b_Mo_signOf 6 = .ok (.i2l, 1) := by decide +kernel
theorem d_Mo_signOf_7 : decode b_Mo_signOf 7 = .ok (.lconst 1, 1) := by decide +kernel
theorem d_Mo_signOf_8 : decode b_Mo_signOf 8 = .ok (.ladd, 1) := by decide +kernel
theorem d_Mo_signOf_9 : decode b_Mo_signOf 9 = .ok (.lstore_n 2, 1) := by decide +kernel
theorem d_Mo_signOf_10 : decode b_Mo_signOf 10 = .ok (.iconst 0, 1) := by decide +kernel
theorem d_Mo_signOf_11 : decode b_Mo_signOf 11 = .ok (.istore 4, 2) := by decide +kernel
theorem d_Mo_signOf_13 : decode b_Mo_signOf 13 = .ok (.iload 4, 2) := by decide +kernel
theorem d_Mo_signOf_15 : decode b_Mo_signOf 15 = .ok (.aload_n 0, 1) := by decide +kernel
theorem d_Mo_signOf_16 : decode b_Mo_signOf 16 = .ok (.getfield 112, 3) := by decide +kernel
theorem d_Mo_signOf_19 : decode b_Mo_signOf 19 = .ok (.if_icmp .ge 177, 3) := by decide +kernel
theorem d_Mo_signOf_22 : decode b_Mo_signOf 22 = .ok (.lconst 1, 1) := by decide +kernel
theorem d_Mo_signOf_23 : decode b_Mo_signOf 23 = .ok (.lstore 5, 2) := by decide +kernel
theorem d_Mo_signOf_25 : decode b_Mo_signOf 25 = .ok (.iconst 0, 1) := by decide +kernel
theorem d_Mo_signOf_26 : decode b_Mo_signOf 26 = .ok (.istore 7, 2) := by decide +kernel
theorem d_Mo_signOf_28 : decode b_Mo_signOf 28 = .ok (.iload 7, 2) := by decide +kernel
theorem d_Mo_signOf_30 : decode b_Mo_signOf 30 = .ok (.aload_n 0, 1) := by decide +kernel
theorem d_Mo_signOf_31 : decode b_Mo_signOf 31 = .ok (.getfield 13, 3) := by decide +kernel
theorem d_Mo_signOf_34 : decode b_Mo_signOf 34 = .ok (.iload 4, 2) := by decide +kernel
theorem d_Mo_signOf_36 : decode b_Mo_signOf 36 = .ok (.iaload, 1) := by decide +kernel
theorem d_Mo_signOf_37 : decode b_Mo_signOf 37 = .ok (.if_icmp .ge 133, 3) := by decide +kernel
theorem d_Mo_signOf_40 : decode b_Mo_signOf 40 = .ok (.aload_n 0, 1) := by decide +kernel
theorem d_Mo_signOf_41 : decode b_Mo_signOf 41 = .ok (.getfield 35, 3) := by decide +kernel
theorem d_Mo_signOf_44 : decode b_Mo_signOf 44 = .ok (.bipush 36, 2) := by decide +kernel
theorem d_Mo_signOf_46 : decode b_Mo_signOf 46 = .ok (.iload_n 1, 1) := by decide +kernel
theorem d_Mo_signOf_47 : decode b_Mo_signOf 47 = .ok (.imul, 1) := by decide +kernel
theorem d_Mo_signOf_48 : decode b_Mo_signOf 48 = .ok (.iconst 3, 1) := by decide +kernel
theorem d_Mo_signOf_49 : decode b_Mo_signOf 49 = .ok (.iload 4, 2) := by decide +kernel
theorem d_Mo_signOf_51 : decode b_Mo_signOf 51 = .ok (.imul, 1) := by decide +kernel
theorem d_Mo_signOf_52 : decode b_Mo_signOf 52 = .ok (.iadd, 1) := by decide +kernel
theorem d_Mo_signOf_53 : decode b_Mo_signOf 53 = .ok (.iload 7, 2) := by decide +kernel
theorem d_Mo_signOf_55 : decode b_Mo_signOf 55 = .ok (.iadd, 1) := by decide +kernel
theorem d_Mo_signOf_56 : decode b_Mo_signOf 56 = .ok (.iaload, 1) := by decide +kernel
theorem d_Mo_signOf_57 : decode b_Mo_signOf 57 = .ok (.istore 8, 2) := by decide +kernel
theorem d_Mo_signOf_59 : decode b_Mo_signOf 59 = .ok (.iconst 0, 1) := by decide +kernel
theorem d_Mo_signOf_60 : decode b_Mo_signOf 60 = .ok (.istore 9, 2) := by decide +kernel
theorem d_Mo_signOf_62 : decode b_Mo_signOf 62 = .ok (.iconst 0, 1) := by decide +kernel
theorem d_Mo_signOf_63 : decode b_Mo_signOf 63 = .ok (.istore 10, 2) := by decide +kernel
theorem d_Mo_signOf_65 : decode b_Mo_signOf 65 = .ok (.iload 10, 2) := by decide +kernel
theorem d_Mo_signOf_67 : decode b_Mo_signOf 67 = .ok (.iload 7, 2) := by decide +kernel
theorem d_Mo_signOf_69 : decode b_Mo_signOf 69 = .ok (.if_icmp .ge 59, 3) := by decide +kernel
theorem d_Mo_signOf_72 : decode b_Mo_signOf 72 = .ok (.iload 8, 2) := by decide +kernel
theorem d_Mo_signOf_74 : decode b_Mo_signOf 74 = .ok (.iconst (-1), 1) := by decide +kernel
theorem d_Mo_signOf_75 : decode b_Mo_signOf 75 = .ok (.if_icmp .eq 53, 3) := by decide +kernel
theorem d_Mo_signOf_78 : decode b_Mo_signOf 78 = .ok (.iload 9, 2) := by decide +kernel
theorem d_Mo_signOf_80 : decode b_Mo_signOf 80 = .ok (.ifCond .ne 35, 3) := by decide +kernel
theorem d_Mo_signOf_83 : decode b_Mo_signOf 83 = .ok (.aload_n 0, 1) := by decide +kernel
theorem d_Mo_signOf_84 : decode b_Mo_signOf 84 = .ok (.getfield 73, 3) := by decide +kernel
theorem d_Mo_signOf_87 : decode b_Mo_signOf 87 = .ok (.aload_n 0, 1) := by decide +kernel
theorem d_Mo_signOf_88 : decode b_Mo_signOf 88 = .ok (.getfield 35, 3) := by decide +kernel
theorem d_Mo_signOf_91 : decode b_Mo_signOf 91 = .ok (.bipush 36, 2) := by decide +kernel
theorem d_Mo_signOf_93 : decode b_Mo_signOf 93 = .ok (.iload_n 1, 1) := by decide +kernel
theorem d_Mo_signOf_94 : decode b_Mo_signOf 94 = .ok (.imul, 1) := by decide +kernel
theorem d_Mo_signOf_95 : decode b_Mo_signOf 95 = .ok (.iconst 3, 1) := by decide +kernel
theorem d_Mo_signOf_96 : decode b_Mo_signOf 96 = .ok (.iload 4, 2) := by decide +kernel
theorem d_Mo_signOf_98 : decode b_Mo_signOf 98 = .ok (.imul, 1) := by decide +kernel
theorem d_Mo_signOf_99 : decode b_Mo_signOf 99 = .ok (.iadd, 1) := by decide +kernel
theorem d_Mo_signOf_100 : decode b_Mo_signOf 100 = .ok (.iload 10, 2) := by decide +kernel
theorem d_Mo_signOf_102 : decode b_Mo_signOf 102 = .ok (.iadd, 1) := by decide +kernel
theorem d_Mo_signOf_103 : decode b_Mo_signOf 103 = .ok (.iaload, 1) := by decide +kernel
theorem d_Mo_signOf_104 : decode b_Mo_signOf 104 = .ok (.iaload, 1) := by decide +kernel
theorem d_Mo_signOf_105 : decode b_Mo_signOf 105 = .ok (.aload_n 0, 1) := by decide +kernel
theorem d_Mo_signOf_106 : decode b_Mo_signOf 106 = .ok (.getfield 73, 3) := by decide +kernel
theorem d_Mo_signOf_109 : decode b_Mo_signOf 109 = .ok (.iload 8, 2) := by decide +kernel
theorem d_Mo_signOf_111 : decode b_Mo_signOf 111 = .ok (.iaload, 1) := by decide +kernel
theorem d_Mo_signOf_112 : decode b_Mo_signOf 112 = .ok (.if_icmp .ne 7, 3) := by decide +kernel
theorem d_Mo_signOf_115 : decode b_Mo_signOf 115 = .ok (.iconst 1, 1) := by decide +kernel
theorem d_Mo_signOf_116 : decode b_Mo_signOf 116 = .ok (.goto 4, 3) := by decide +kernel
theorem d_Mo_signOf_119 : decode b_Mo_signOf 119 = .ok (.iconst 0, 1) := by decide +kernel
theorem d_Mo_signOf_120 : decode b_Mo_signOf 120 = .ok (.istore 9, 2) := by decide +kernel
theorem d_Mo_signOf_122 : decode b_Mo_signOf 122 = .ok (.iinc 10 1, 3) := by decide +kernel
theorem d_Mo_signOf_125 : decode b_Mo_signOf 125 = .ok (.goto (-60), 3) := by decide +kernel
theorem d_Mo_signOf_128 : decode b_Mo_signOf 128 = .ok (.lload 5, 2) := by decide +kernel
theorem d_Mo_signOf_130 : decode b_Mo_signOf 130 = .ok (.iload 8, 2) := by decide +kernel
theorem d_Mo_signOf_132 : decode b_Mo_signOf 132 = .ok (.iconst (-1), 1) := by decide +kernel
theorem d_Mo_signOf_133 : decode b_Mo_signOf 133 = .ok (.if_icmp .eq 8, 3) := by decide +kernel
theorem d_Mo_signOf_136 : decode b_Mo_signOf 136 = .ok (.iload 9, 2) := by decide +kernel
theorem d_Mo_signOf_138 : decode b_Mo_signOf 138 = .ok (.ifCond .eq 7, 3) := by decide +kernel
theorem d_Mo_signOf_141 : decode b_Mo_signOf 141 = .ok (.lconst 0, 1) := by decide +kernel
theorem d_Mo_signOf_142 : decode b_Mo_signOf 142 = .ok (.goto 19, 3) := by decide +kernel
theorem d_Mo_signOf_145 : decode b_Mo_signOf 145 = .ok (.aload_n 0, 1) := by decide +kernel
theorem d_Mo_signOf_146 : decode b_Mo_signOf 146 = .ok (.getfield 73, 3) := by decide +kernel
theorem d_Mo_signOf_149 : decode b_Mo_signOf 149 = .ok (.iload 8, 2) := by decide +kernel
theorem d_Mo_signOf_151 : decode b_Mo_signOf 151 = .ok (.iaload, 1) := by decide +kernel
theorem d_Mo_signOf_152 : decode b_Mo_signOf 152 = .ok (.i2l, 1) := by decide +kernel
theorem d_Mo_signOf_153 : decode b_Mo_signOf 153 = .ok (.ldc2_w 183, 3) := by decide +kernel
theorem d_Mo_signOf_156 : decode b_Mo_signOf 156 = .ok (.ladd, 1) := by decide +kernel
theorem d_Mo_signOf_157 : decode b_Mo_signOf 157 = .ok (.ldc2_w 185, 3) := by decide +kernel
theorem d_Mo_signOf_160 : decode b_Mo_signOf 160 = .ok (.lmul, 1) := by decide +kernel
theorem d_Mo_signOf_161 : decode b_Mo_signOf 161 = .ok (.ladd, 1) := by decide +kernel
theorem d_Mo_signOf_162 : decode b_Mo_signOf 162 = .ok (.lstore 5, 2) := by decide +kernel
theorem d_Mo_signOf_164 : decode b_Mo_signOf 164 = .ok (.iinc 7 1, 3) := by decide +kernel
theorem d_Mo_signOf_167 : decode b_Mo_signOf 167 = .ok (.goto (-139), 3) := by decide +kernel
theorem d_Mo_signOf_170 : decode b_Mo_signOf 170 = .ok (.lload_n 2, 1) := by decide +kernel
theorem d_Mo_signOf_171 : decode b_Mo_signOf 171 = .ok (.ldc2_w 187, 3) := by decide +kernel
theorem d_Mo_signOf_174 : decode b_Mo_signOf 174 = .ok (.lmul, 1) := by decide +kernel
theorem d_Mo_signOf_175 : decode b_Mo_signOf 175 = .ok (.lload 5, 2) := by decide +kernel
theorem d_Mo_signOf_177 : decode b_Mo_signOf 177 = .ok (.ladd, 1) := by decide +kernel
theorem d_Mo_signOf_178 : decode b_Mo_signOf 178 = .ok (.ldc2_w 189, 3) := by decide +kernel
theorem d_Mo_signOf_181 : decode b_Mo_signOf 181 = .ok (.lmul, 1) := by decide +kernel
theorem d_Mo_signOf_182 : decode b_Mo_signOf 182 = .ok (.lstore_n 2, 1) := by decide +kernel
theorem d_Mo_signOf_183 : decode b_Mo_signOf 183 = .ok (.lload_n 2, 1) := by decide +kernel
theorem d_Mo_signOf_184 : decode b_Mo_signOf 184 = .ok (.lload_n 2, 1) := by decide +kernel
theorem d_Mo_signOf_185 : decode b_Mo_signOf 185 = .ok (.bipush 29, 2) := by decide +kernel
theorem d_Mo_signOf_187 : decode b_Mo_signOf 187 = .ok (.lushr, 1) := by decide +kernel
theorem d_Mo_signOf_188 : decode b_Mo_signOf 188 = .ok (.lxor, 1) := by decide +kernel
theorem d_Mo_signOf_189 : decode b_Mo_signOf 189 = .ok (.lstore_n 2, 1) := by decide +kernel
theorem d_Mo_signOf_190 : decode b_Mo_signOf 190 = .ok (.iinc 4 1, 3) := by decide +kernel
theorem d_Mo_signOf_193 : decode b_Mo_signOf 193 = .ok (.goto (-180), 3) := by decide +kernel
theorem d_Mo_signOf_196 : decode b_Mo_signOf 196 = .ok (.lload_n 2, 1) := by decide +kernel
theorem d_Mo_signOf_197 : decode b_Mo_signOf 197 = .ok (.lreturn, 1) := by decide +kernel
theorem d_Mo_areAlike_0 : decode b_Mo_areAlike 0 = .ok (.aload_n 0, 1) := by decide +kernel
theorem d_Mo_areAlike_1 : decode b_Mo_areAlike 1 = .ok (.getfield 73, 3) := by decide +kernel
theorem d_Mo_areAlike_4 : decode b_Mo_areAlike 4 = .ok (.iload_n 1, 1) := by decide +kernel
theorem d_Mo_areAlike_5 : decode b_Mo_areAlike 5 = .ok (.iaload, 1) := by decide +kernel
theorem d_Mo_areAlike_6 : decode b_Mo_areAlike 6 = .ok (.aload_n 0, 1) := by decide +kernel
theorem d_Mo_areAlike_7 : decode b_Mo_areAlike 7 = .ok (.getfield 73, 3) := by decide +kernel
theorem d_Mo_areAlike_10 : decode b_Mo_areAlike 10 = .ok (.iload_n 2, 1) := by decide +kernel
theorem d_Mo_areAlike_11 : decode b_Mo_areAlike 11 = .ok (.iaload, 1) := by decide +kernel
theorem d_Mo_areAlike_12 : decode b_Mo_areAlike 12 = .ok (.if_icmp .ne 7, 3) := by decide +kernel
theorem d_Mo_areAlike_15 : decode b_Mo_areAlike 15 = .ok (.iconst 1, 1) := by decide +kernel
theorem d_Mo_areAlike_16 : decode b_Mo_areAlike 16 = .ok (.goto 4, 3) := by decide +kernel
theorem d_Mo_areAlike_19 : decode b_Mo_areAlike 19 = .ok (.iconst 0, 1) := by decide +kernel
theorem d_Mo_areAlike_20 : decode b_Mo_areAlike 20 = .ok (.istore_n 3, 1) := by decide +kernel
theorem d_Mo_areAlike_21 : decode b_Mo_areAlike 21 = .ok (.iconst 0, 1) := by decide +kernel
theorem d_Mo_areAlike_22 : decode b_Mo_areAlike 22 = .ok (.istore 4, 2) := by decide +kernel
theorem d_Mo_areAlike_24 : decode b_Mo_areAlike 24 = .ok (.iload 4, 2) := by decide +kernel
theorem d_Mo_areAlike_26 : decode b_Mo_areAlike 26 = .ok (.aload_n 0, 1) := by decide +kernel
theorem d_Mo_areAlike_27 : decode b_Mo_areAlike 27 = .ok (.getfield 112, 3) := by decide +kernel
theorem d_Mo_areAlike_30 : decode b_Mo_areAlike 30 = .ok (.if_icmp .ge 22, 3) := by decide +kernel
theorem d_Mo_areAlike_33 : decode b_Mo_areAlike 33 = .ok (.iload_n 3, 1) := by decide +kernel
theorem d_Mo_areAlike_34 : decode b_Mo_areAlike 34 = .ok (.ifCond .eq 18, 3) := by decide +kernel
theorem d_Mo_areAlike_37 : decode b_Mo_areAlike 37 = .ok (.aload_n 0, 1) := by decide +kernel
theorem d_Mo_areAlike_38 : decode b_Mo_areAlike 38 = .ok (.iload_n 1, 1) := by decide +kernel
theorem d_Mo_areAlike_39 : decode b_Mo_areAlike 39 = .ok (.iload_n 2, 1) := by decide +kernel
theorem d_Mo_areAlike_40 : decode b_Mo_areAlike 40 = .ok (.iload 4, 2) := by decide +kernel
theorem d_Mo_areAlike_42 : decode b_Mo_areAlike 42 = .ok (.invokevirtual 180, 3) := by decide +kernel
theorem d_Mo_areAlike_45 : decode b_Mo_areAlike 45 = .ok (.istore_n 3, 1) := by decide +kernel
theorem d_Mo_areAlike_46 : decode b_Mo_areAlike 46 = .ok (.iinc 4 1, 3) := by decide +kernel
theorem d_Mo_areAlike_49 : decode b_Mo_areAlike 49 = .ok (.goto (-25), 3) := by decide +kernel
theorem d_Mo_areAlike_52 : decode b_Mo_areAlike 52 = .ok (.iload_n 3, 1) := by decide +kernel
theorem d_Mo_areAlike_53 : decode b_Mo_areAlike 53 = .ok (.ireturn, 1) := by decide +kernel
theorem d_Mo_isOneWay_0 : decode b_Mo_isOneWay 0 = .ok (.iconst 0, 1) := by decide +kernel
theorem d_Mo_isOneWay_1 : decode b_Mo_isOneWay 1 = .ok (.istore 4, 2) := by decide +kernel
theorem d_Mo_isOneWay_3 : decode b_Mo_isOneWay 3 = .ok (.iload 4, 2) := by decide +kernel
theorem d_Mo_isOneWay_5 : decode b_Mo_isOneWay 5 = .ok (.aload_n 0, 1) := by decide +kernel
theorem d_Mo_isOneWay_6 : decode b_Mo_isOneWay 6 = .ok (.getfield 13, 3) := by decide +kernel
theorem d_Mo_isOneWay_9 : decode b_Mo_isOneWay 9 = .ok (.iload_n 3, 1) := by decide +kernel
theorem d_Mo_isOneWay_10 : decode b_Mo_isOneWay 10 = .ok (.iaload, 1) := by decide +kernel
theorem d_Mo_isOneWay_11 : decode b_Mo_isOneWay 11 = .ok (.if_icmp .ge 194, 3) := by decide +kernel
theorem d_Mo_isOneWay_14 : decode b_Mo_isOneWay 14 = .ok (.aload_n 0, 1) := by decide +kernel
theorem d_Mo_isOneWay_15 : decode b_Mo_isOneWay 15 = .ok (.getfield 35, 3) := by decide +kernel
theorem d_Mo_isOneWay_18 : decode b_Mo_isOneWay 18 = .ok (.bipush 36, 2) := by decide +kernel
theorem d_Mo_isOneWay_20 : decode b_Mo_isOneWay 20 = .ok (.iload_n 1, 1) := by decide +kernel
theorem d_Mo_isOneWay_21 : decode b_Mo_isOneWay 21 = .ok (.imul, 1) := by decide +kernel
theorem d_Mo_isOneWay_22 : decode b_Mo_isOneWay 22 = .ok (.iconst 3, 1) := by decide +kernel
theorem d_Mo_isOneWay_23 : decode b_Mo_isOneWay 23 = .ok (.iload_n 3, 1) := by decide +kernel
theorem d_Mo_isOneWay_24 : decode b_Mo_isOneWay 24 = .ok (.imul, 1) := by decide +kernel
theorem d_Mo_isOneWay_25 : decode b_Mo_isOneWay 25 = .ok (.iadd, 1) := by decide +kernel
theorem d_Mo_isOneWay_26 : decode b_Mo_isOneWay 26 = .ok (.iload 4, 2) := by decide +kernel
theorem d_Mo_isOneWay_28 : decode b_Mo_isOneWay 28 = .ok (.iadd, 1) := by decide +kernel
theorem d_Mo_isOneWay_29 : decode b_Mo_isOneWay 29 = .ok (.iaload, 1) := by decide +kernel
theorem d_Mo_isOneWay_30 : decode b_Mo_isOneWay 30 = .ok (.istore 5, 2) := by decide +kernel
theorem d_Mo_isOneWay_32 : decode b_Mo_isOneWay 32 = .ok (.aload_n 0, 1) := by decide +kernel
theorem d_Mo_isOneWay_33 : decode b_Mo_isOneWay 33 = .ok (.getfield 35, 3) := by decide +kernel
theorem d_Mo_isOneWay_36 : decode b_Mo_isOneWay 36 = .ok (.bipush 36, 2) := by decide +kernel
theorem d_Mo_isOneWay_38 : decode b_Mo_isOneWay 38 = .ok (.iload_n 2, 1) := by decide +kernel
theorem d_Mo_isOneWay_39 : decode b_Mo_isOneWay 39 = .ok (.imul, 1) := by decide +kernel
theorem d_Mo_isOneWay_40 : decode b_Mo_isOneWay 40 = .ok (.iconst 3, 1) := by decide +kernel
theorem d_Mo_isOneWay_41 : decode b_Mo_isOneWay 41 = .ok (.iload_n 3, 1) := by decide +kernel
theorem d_Mo_isOneWay_42 : decode b_Mo_isOneWay 42 = .ok (.imul, 1) := by decide +kernel
theorem d_Mo_isOneWay_43 : decode b_Mo_isOneWay 43 = .ok (.iadd, 1) := by decide +kernel
theorem d_Mo_isOneWay_44 : decode b_Mo_isOneWay 44 = .ok (.iload 4, 2) := by decide +kernel
theorem d_Mo_isOneWay_46 : decode b_Mo_isOneWay 46 = .ok (.iadd, 1) := by decide +kernel
theorem d_Mo_isOneWay_47 : decode b_Mo_isOneWay 47 = .ok (.iaload, 1) := by decide +kernel
theorem d_Mo_isOneWay_48 : decode b_Mo_isOneWay 48 = .ok (.istore 6, 2) := by decide +kernel
theorem d_Mo_isOneWay_50 : decode b_Mo_isOneWay 50 = .ok (.iload 5, 2) := by decide +kernel
theorem d_Mo_isOneWay_52 : decode b_Mo_isOneWay 52 = .ok (.iconst (-1), 1) := by decide +kernel
theorem d_Mo_isOneWay_53 : decode b_Mo_isOneWay 53 = .ok (.if_icmp .eq 9, 3) := by decide +kernel
theorem d_Mo_isOneWay_56 : decode b_Mo_isOneWay 56 = .ok (.iload 6, 2) := by decide +kernel
theorem d_Mo_isOneWay_58 : decode b_Mo_isOneWay 58 = .ok (.iconst (-1), 1) := by decide +kernel
theorem d_Mo_isOneWay_59 : decode b_Mo_isOneWay 59 = .ok (.if_icmp .ne 16, 3) := by decide +kernel
theorem d_Mo_isOneWay_62 : decode b_Mo_isOneWay 62 = .ok (.iload 5, 2) := by decide +kernel
theorem d_Mo_isOneWay_64 : decode b_Mo_isOneWay 64 = .ok (.iload 6, 2) := by decide +kernel
theorem d_Mo_isOneWay_66 : decode b_Mo_isOneWay 66 = .ok (.if_icmp .ne 7, 3) := by decide +kernel
theorem d_Mo_isOneWay_69 : decode b_Mo_isOneWay 69 = .ok (.iconst 1, 1) := by decide +kernel
theorem d_Mo_isOneWay_70 : decode b_Mo_isOneWay 70 = .ok (.goto 4, 3) := by decide +kernel
theorem d_Mo_isOneWay_73 : decode b_Mo_isOneWay 73 = .ok (.iconst 0, 1) := by decide +kernel
theorem d_Mo_isOneWay_74 : decode b_Mo_isOneWay 74 = .ok (.ireturn, 1) := by decide +kernel
theorem d_Mo_isOneWay_75 : decode b_Mo_isOneWay 75 = .ok (.iconst 0, 1) := by decide +kernel
theorem d_Mo_isOneWay_76 : decode b_Mo_isOneWay 76 = .ok (.istore 7, 2) := by decide +kernel
theorem d_Mo_isOneWay_78 : decode b_Mo_isOneWay 78 = .ok (.iconst 0, 1) := by decide +kernel
theorem d_Mo_isOneWay_79 : decode b_Mo_isOneWay 79 = .ok (.istore 8, 2) := by decide +kernel
theorem d_Mo_isOneWay_81 : decode b_Mo_isOneWay 81 = .ok (.iconst 0, 1) := by decide +kernel
theorem d_Mo_isOneWay_82 : decode b_Mo_isOneWay 82 = .ok (.istore 9, 2) := by decide +kernel
theorem d_Mo_isOneWay_84 : decode b_Mo_isOneWay 84 = .ok (.iload 9, 2) := by decide +kernel
theorem d_Mo_isOneWay_86 : decode b_Mo_isOneWay 86 = .ok (.aload_n 0, 1) := by decide +kernel
theorem d_Mo_isOneWay_87 : decode b_Mo_isOneWay 87 = .ok (.getfield 13, 3) := by decide +kernel
theorem d_Mo_isOneWay_90 : decode b_Mo_isOneWay 90 = .ok (.iload_n 3, 1) := by decide +kernel
theorem d_Mo_isOneWay_91 : decode b_Mo_isOneWay 91 = .ok (.iaload, 1) := by decide +kernel
theorem d_Mo_isOneWay_92 : decode b_Mo_isOneWay 92 = .ok (.if_icmp .ge 95, 3) := by decide +kernel
theorem d_Mo_isOneWay_95 : decode b_Mo_isOneWay 95 = .ok (.iload 7, 2) := by decide +kernel
theorem d_Mo_isOneWay_97 : decode b_Mo_isOneWay 97 = .ok (.ifCond .ne 34, 3) := by decide +kernel
theorem d_Mo_isOneWay_100 : decode b_Mo_isOneWay 100 = .ok (.aload_n 0, 1) := by decide +kernel
theorem d_Mo_isOneWay_101 : decode b_Mo_isOneWay 101 = .ok (.getfield 73, 3) := by decide +kernel
theorem d_Mo_isOneWay_104 : decode b_Mo_isOneWay 104 = .ok (.iload 5, 2) := by decide +kernel
theorem d_Mo_isOneWay_106 : decode b_Mo_isOneWay 106 = .ok (.iaload, 1) := by decide +kernel
theorem d_Mo_isOneWay_107 : decode b_Mo_isOneWay 107 = .ok (.aload_n 0, 1) := by decide +kernel
theorem d_Mo_isOneWay_108 : decode b_Mo_isOneWay 108 = .ok (.getfield 73, 3) := by decide +kernel
theorem d_Mo_isOneWay_111 : decode b_Mo_isOneWay 111 = .ok (.aload_n 0, 1) := by decide +kernel
theorem d_Mo_isOneWay_112 : decode b_Mo_isOneWay 112 = .ok (.getfield 35, 3) := by decide +kernel
theorem d_Mo_isOneWay_115 : decode b_Mo_isOneWay 115 = .ok (.bipush 36, 2) := by decide +kernel
theorem d_Mo_isOneWay_117 : decode b_Mo_isOneWay 117 = .ok (.iload_n 2, 1) := by decide +kernel
theorem d_Mo_isOneWay_118 : decode b_Mo_isOneWay 118 = .ok (.imul, 1) := by decide +kernel
theorem d_Mo_isOneWay_119 : decode b_Mo_isOneWay 119 = .ok (.iconst 3, 1) := by decide +kernel
theorem d_Mo_isOneWay_120 : decode b_Mo_isOneWay 120 = .ok (.iload_n 3, 1) := by decide +kernel
theorem d_Mo_isOneWay_121 : decode b_Mo_isOneWay 121 = .ok (.imul, 1) := by decide +kernel
theorem d_Mo_isOneWay_122 : decode b_Mo_isOneWay 122 = .ok (.iadd, 1) := by decide +kernel
theorem d_Mo_isOneWay_123 : decode b_Mo_isOneWay 123 = .ok (.iload 9, 2) := by decide +kernel
theorem d_Mo_isOneWay_125 : decode b_Mo_isOneWay 125 = .ok (.iadd, 1) := by decide +kernel
theorem d_Mo_isOneWay_126 : decode b_Mo_isOneWay 126 = .ok (.iaload, 1) := by decide +kernel
theorem d_Mo_isOneWay_127 : decode b_Mo_isOneWay 127 = .ok (.iaload, 1) := by decide +kernel
theorem d_Mo_isOneWay_128 : decode b_Mo_isOneWay 128 = .ok (.if_icmp .ne 7, 3) := by decide +kernel
theorem d_Mo_isOneWay_131 : decode b_Mo_isOneWay 131 = .ok (.iconst 1, 1) := by decide +kernel
theorem d_Mo_isOneWay_132 : decode b_Mo_isOneWay 132 = .ok (.goto 4, 3) := by decide +kernel
theorem d_Mo_isOneWay_135 : decode b_Mo_isOneWay 135 = .ok (.iconst 0, 1) := by decide +kernel
theorem d_Mo_isOneWay_136 : decode b_Mo_isOneWay 136 = .ok (.istore 7, 2) := by decide +kernel
theorem d_Mo_isOneWay_138 : decode b_Mo_isOneWay 138 = .ok (.iload 8, 2) := by decide +kernel
theorem d_Mo_isOneWay_140 : decode b_Mo_isOneWay 140 = .ok (.ifCond .ne 34, 3) := by decide +kernel
theorem d_Mo_isOneWay_143 : decode b_Mo_isOneWay 143 = .ok (.aload_n 0, 1) := by decide +kernel
theorem d_Mo_isOneWay_144 : decode b_Mo_isOneWay 144 = .ok (.getfield 73, 3) := by decide +kernel
theorem d_Mo_isOneWay_147 : decode b_Mo_isOneWay 147 = .ok (.iload 6, 2) := by decide +kernel
theorem d_Mo_isOneWay_149 : decode b_Mo_isOneWay 149 = .ok (.iaload, 1) := by decide +kernel
theorem d_Mo_isOneWay_150 : decode b_Mo_isOneWay 150 = .ok (.aload_n 0, 1) := by decide +kernel
theorem d_Mo_isOneWay_151 : decode b_Mo_isOneWay 151 = .ok (.getfield 73, 3) := by decide +kernel
theorem d_Mo_isOneWay_154 : decode b_Mo_isOneWay 154 = .ok (.aload_n 0, 1) := by decide +kernel
theorem d_Mo_isOneWay_155 : decode b_Mo_isOneWay 155 = .ok (.getfield 35, 3) := by decide +kernel
theorem d_Mo_isOneWay_158 : decode b_Mo_isOneWay 158 = .ok (.bipush 36, 2) := by decide +kernel
theorem d_Mo_isOneWay_160 : decode b_Mo_isOneWay 160 = .ok (.iload_n 1, 1) := by decide +kernel
theorem d_Mo_isOneWay_161 : decode b_Mo_isOneWay 161 = .ok (.imul, 1) := by decide +kernel
theorem d_Mo_isOneWay_162 : decode b_Mo_isOneWay 162 = .ok (.iconst 3, 1) := by decide +kernel
theorem d_Mo_isOneWay_163 : decode b_Mo_isOneWay 163 = .ok (.iload_n 3, 1) := by decide +kernel
theorem d_Mo_isOneWay_164 : decode b_Mo_isOneWay 164 = .ok (.imul, 1) := by decide +kernel
theorem d_Mo_isOneWay_165 : decode b_Mo_isOneWay 165 = .ok (.iadd, 1) := by decide +kernel
theorem d_Mo_isOneWay_166 : decode b_Mo_isOneWay 166 = .ok (.iload 9, 2) := by decide +kernel
theorem d_Mo_isOneWay_168 : decode b_Mo_isOneWay 168 = .ok (.iadd, 1) := by decide +kernel
theorem d_Mo_isOneWay_169 : decode b_Mo_isOneWay 169 = .ok (.iaload, 1) := by decide +kernel
theorem d_Mo_isOneWay_170 : decode b_Mo_isOneWay 170 = .ok (.iaload, 1) := by decide +kernel
theorem d_Mo_isOneWay_171 : decode b_Mo_isOneWay 171 = .ok (.if_icmp .ne 7, 3) := by decide +kernel
theorem d_Mo_isOneWay_174 : decode b_Mo_isOneWay 174 = .ok (.iconst 1, 1) := by decide +kernel
theorem d_Mo_isOneWay_175 : decode b_Mo_isOneWay 175 = .ok (.goto 4, 3) := by decide +kernel
theorem d_Mo_isOneWay_178 : decode b_Mo_isOneWay 178 = .ok (.iconst 0, 1) := by decide +kernel
theorem d_Mo_isOneWay_179 : decode b_Mo_isOneWay 179 = .ok (.istore 8, 2) := by decide +kernel
theorem d_Mo_isOneWay_181 : decode b_Mo_isOneWay 181 = .ok (.iinc 9 1, 3) := by decide +kernel
theorem d_Mo_isOneWay_184 : decode b_Mo_isOneWay 184 = .ok (.goto (-100), 3) := by decide +kernel
theorem d_Mo_isOneWay_187 : decode b_Mo_isOneWay 187 = .ok (.iload 7, 2) := by decide +kernel
theorem d_Mo_isOneWay_189 : decode b_Mo_isOneWay 189 = .ok (.ifCond .eq 8, 3) := by decide +kernel
theorem d_Mo_isOneWay_192 : decode b_Mo_isOneWay 192 = .ok (.iload 8, 2) := by decide +kernel
theorem d_Mo_isOneWay_194 : decode b_Mo_isOneWay 194 = .ok (.ifCond .ne 5, 3) := by decide +kernel
theorem d_Mo_isOneWay_197 : decode b_Mo_isOneWay 197 = .ok (.iconst 0, 1) := by decide +kernel
theorem d_Mo_isOneWay_198 : decode b_Mo_isOneWay 198 = .ok (.ireturn, 1) := by decide +kernel
theorem d_Mo_isOneWay_199 : decode b_Mo_isOneWay 199 = .ok (.iinc 4 1, 3) := by decide +kernel
theorem d_Mo_isOneWay_202 : decode b_Mo_isOneWay 202 = .ok (.goto (-199), 3) := by decide +kernel
theorem d_Mo_isOneWay_205 : decode b_Mo_isOneWay 205 = .ok (.iconst 1, 1) := by decide +kernel
theorem d_Mo_isOneWay_206 : decode b_Mo_isOneWay 206 = .ok (.ireturn, 1) := by decide +kernel
theorem d_Mo_of_0 : decode b_Mo_of 0 = .ok (.aload_n 0, 1) := by decide +kernel
theorem d_Mo_of_1 : decode b_Mo_of 1 = .ok (.iload_n 1, 1) := by decide +kernel
theorem d_Mo_of_2 : decode b_Mo_of 2 = .ok (.invokevirtual 126, 3) := by decide +kernel
theorem d_Mo_of_5 : decode b_Mo_of 5 = .ok (.ifCond .eq 12, 3) := by decide +kernel
theorem d_Mo_of_8 : decode b_Mo_of 8 = .ok (.iload_n 2, 1) := by decide +kernel
theorem d_Mo_of_9 : decode b_Mo_of 9 = .ok (.iconst 0, 1) := by decide +kernel
theorem d_Mo_of_10 : decode b_Mo_of 10 = .ok (.iconst 4, 1) := by decide +kernel
theorem d_Mo_of_11 : decode b_Mo_of 11 = .ok (.invokestatic 118, 3) := by decide +kernel
theorem d_Mo_of_14 : decode b_Mo_of 14 = .ok (.ifCond .ne 6, 3) := by decide +kernel
theorem d_Mo_of_17 : decode b_Mo_of 17 = .ok (.bipush (-2), 2) := by decide +kernel
theorem d_Mo_of_19 : decode b_Mo_of 19 = .ok (.ireturn, 1) := by decide +kernel
theorem d_Mo_of_20 : decode b_Mo_of 20 = .ok (.aload_n 0, 1) := by decide +kernel
theorem d_Mo_of_21 : decode b_Mo_of 21 = .ok (.invokevirtual 191, 3) := by decide +kernel
theorem d_Mo_of_24 : decode b_Mo_of 24 = .ok (.iload_n 2, 1) := by decide +kernel
theorem d_Mo_of_25 : decode b_Mo_of 25 = .ok (.tableswitch 59 0 3 #[31, 38, 45, 52], 31) := by decide +kernel
theorem d_Mo_of_56 : decode b_Mo_of 56 = .ok (.aload_n 0, 1) := by decide +kernel
theorem d_Mo_of_57 : decode b_Mo_of 57 = .ok (.getfield 51, 3) := by decide +kernel
theorem d_Mo_of_60 : decode b_Mo_of 60 = .ok (.iload_n 1, 1) := by decide +kernel
theorem d_Mo_of_61 : decode b_Mo_of 61 = .ok (.iaload, 1) := by decide +kernel
theorem d_Mo_of_62 : decode b_Mo_of 62 = .ok (.ireturn, 1) := by decide +kernel
theorem d_Mo_of_63 : decode b_Mo_of 63 = .ok (.aload_n 0, 1) := by decide +kernel
theorem d_Mo_of_64 : decode b_Mo_of 64 = .ok (.getfield 54, 3) := by decide +kernel
theorem d_Mo_of_67 : decode b_Mo_of 67 = .ok (.iload_n 1, 1) := by decide +kernel
theorem d_Mo_of_68 : decode b_Mo_of 68 = .ok (.iaload, 1) := by decide +kernel
theorem d_Mo_of_69 : decode b_Mo_of 69 = .ok (.ireturn, 1) := by decide +kernel
theorem d_Mo_of_70 : decode b_Mo_of 70 = .ok (.aload_n 0, 1) := by decide +kernel
theorem d_Mo_of_71 : decode b_Mo_of 71 = .ok (.getfield 57, 3) := by decide +kernel
theorem d_Mo_of_74 : decode b_Mo_of 74 = .ok (.iload_n 1, 1) := by decide +kernel
theorem d_Mo_of_75 : decode b_Mo_of 75 = .ok (.iaload, 1) := by decide +kernel
theorem d_Mo_of_76 : decode b_Mo_of 76 = .ok (.ireturn, 1) := by decide +kernel
theorem d_Mo_of_77 : decode b_Mo_of 77 = .ok (.aload_n 0, 1) := by decide +kernel
theorem d_Mo_of_78 : decode b_Mo_of 78 = .ok (.getfield 60, 3) := by decide +kernel
theorem d_Mo_of_81 : decode b_Mo_of 81 = .ok (.iload_n 1, 1) := by decide +kernel
theorem d_Mo_of_82 : decode b_Mo_of 82 = .ok (.iaload, 1) := by decide +kernel
theorem d_Mo_of_83 : decode b_Mo_of 83 = .ok (.ireturn, 1) := by decide +kernel
theorem d_Mo_of_84 : decode b_Mo_of 84 = .ok (.aload_n 0, 1) := by decide +kernel
theorem d_Mo_of_85 : decode b_Mo_of 85 = .ok (.invokevirtual 206, 3) := by decide +kernel
theorem d_Mo_of_88 : decode b_Mo_of 88 = .ok (.iconst 0, 1) := by decide +kernel
theorem d_Mo_of_89 : decode b_Mo_of 89 = .ok (.istore_n 3, 1) := by decide +kernel
theorem d_Mo_of_90 : decode b_Mo_of 90 = .ok (.aload_n 0, 1) := by decide +kernel
theorem d_Mo_of_91 : decode b_Mo_of 91 = .ok (.getfield 73, 3) := by decide +kernel
theorem d_Mo_of_94 : decode b_Mo_of 94 = .ok (.iload_n 3, 1) := by decide +kernel
theorem d_Mo_of_95 : decode b_Mo_of 95 = .ok (.iaload, 1) := by decide +kernel
theorem d_Mo_of_96 : decode b_Mo_of 96 = .ok (.aload_n 0, 1) := by decide +kernel
theorem d_Mo_of_97 : decode b_Mo_of 97 = .ok (.getfield 73, 3) := by decide +kernel
theorem d_Mo_of_100 : decode b_Mo_of 100 = .ok (.iload_n 1, 1) := by decide +kernel
theorem d_Mo_of_101 : decode b_Mo_of 101 = .ok (.iaload, 1) := by decide +kernel
theorem d_Mo_of_102 : decode b_Mo_of 102 = .ok (.if_icmp .eq 9, 3) := by decide +kernel
theorem d_Mo_of_105 : decode b_Mo_of 105 = .ok (.iinc 3 1, 3) := by decide +kernel
theorem d_Mo_of_108 : decode b_Mo_of 108 = .ok (.goto (-18), 3) := by decide +kernel
theorem d_Mo_of_111 : decode b_Mo_of 111 = .ok (.iload_n 3, 1) := by decide +kernel
theorem d_Mo_of_112 : decode b_Mo_of 112 = .ok (.ireturn, 1) := by decide +kernel
theorem d_Mo_best_0 : decode b_Mo_best 0 = .ok (.aload_n 0, 1) := by decide +kernel
theorem d_Mo_best_1 : decode b_Mo_best 1 = .ok (.iload_n 1, 1) := by decide +kernel
theorem d_Mo_best_2 : decode b_Mo_best 2 = .ok (.invokevirtual 126, 3) := by decide +kernel
theorem d_Mo_best_5 : decode b_Mo_best 5 = .ok (.ifCond .eq 12, 3) := by decide +kernel
theorem d_Mo_best_8 : decode b_Mo_best 8 = .ok (.iload_n 2, 1) := by decide +kernel
theorem d_Mo_best_9 : decode b_Mo_best 9 = .ok (.iconst 1, 1) := by decide +kernel
theorem d_Mo_best_10 : decode b_Mo_best 10 = .ok (.iconst 3, 1) := by decide +kernel
theorem d_Mo_best_11 : decode b_Mo_best 11 = .ok (.invokestatic 118, 3) := by decide +kernel
theorem d_Mo_best_14 : decode b_Mo_best 14 = .ok (.ifCond .ne 6, 3) := by decide +kernel
theorem d_Mo_best_17 : decode b_Mo_best 17 = .ok (.bipush (-2), 2) := by decide +kernel
theorem d_Mo_best_19 : decode b_Mo_best 19 = .ok (.ireturn, 1) := by decide +kernel
theorem d_Mo_best_20 : decode b_Mo_best 20 = .ok (.aload_n 0, 1) := by decide +kernel
theorem d_Mo_best_21 : decode b_Mo_best 21 = .ok (.invokevirtual 191, 3) := by decide +kernel
theorem d_Mo_best_24 : decode b_Mo_best 24 = .ok (.iload_n 2, 1) := by decide +kernel
theorem d_Mo_best_25 : decode b_Mo_best 25 = .ok (.iconst 1, 1) := by decide +kernel
theorem d_Mo_best_26 : decode b_Mo_best 26 = .ok (.if_icmp .ne 12, 3) := by decide +kernel
theorem d_Mo_best_29 : decode b_Mo_best 29 = .ok (.aload_n 0, 1) := by decide +kernel
theorem d_Mo_best_30 : decode b_Mo_best 30 = .ok (.getfield 54, 3) := by decide +kernel
theorem d_Mo_best_33 : decode b_Mo_best 33 = .ok (.iload_n 1, 1) := by decide +kernel
theorem d_Mo_best_34 : decode b_Mo_best 34 = .ok (.iaload, 1) := by decide +kernel
theorem d_Mo_best_35 : decode b_Mo_best 35 = .ok (.goto 23, 3) := by decide +kernel
theorem d_Mo_best_38 : decode b_Mo_best 38 = .ok (.iload_n 2, 1) := by decide +kernel
theorem d_Mo_best_39 : decode b_Mo_best 39 = .ok (.iconst 2, 1) := by decide +kernel
theorem d_Mo_best_40 : decode b_Mo_best 40 = .ok (.if_icmp .ne 12, 3) := by decide +kernel
theorem d_Mo_best_43 : decode b_Mo_best 43 = .ok (.aload_n 0, 1) := by decide +kernel
theorem d_Mo_best_44 : decode b_Mo_best 44 = .ok (.getfield 57, 3) := by decide +kernel
theorem d_Mo_best_47 : decode b_Mo_best 47 = .ok (.iload_n 1, 1) := by decide +kernel
theorem d_Mo_best_48 : decode b_Mo_best 48 = .ok (.iaload, 1) := by decide +kernel
theorem d_Mo_best_49 : decode b_Mo_best 49 = .ok (.goto 9, 3) := by decide +kernel
theorem d_Mo_best_52 : decode b_Mo_best 52 = .ok (.aload_n 0, 1) := by decide +kernel
theorem d_Mo_best_53 : decode b_Mo_best 53 = .ok (.getfield 60, 3) := by decide +kernel
theorem d_Mo_best_56 : decode b_Mo_best 56 = .ok (.iload_n 1, 1) := by decide +kernel
theorem d_Mo_best_57 : decode b_Mo_best 57 = .ok (.iaload, 1) := by decide +kernel
theorem d_Mo_best_58 : decode b_Mo_best 58 = .ok (.istore_n 3, 1) := by decide +kernel
theorem d_Mo_best_59 : decode b_Mo_best 59 = .ok (.iload_n 3, 1) := by decide +kernel
theorem d_Mo_best_60 : decode b_Mo_best 60 = .ok (.iconst 1, 1) := by decide +kernel
theorem d_Mo_best_61 : decode b_Mo_best 61 = .ok (.if_icmp .ge 5, 3) := by decide +kernel
theorem d_Mo_best_64 : decode b_Mo_best 64 = .ok (.iconst (-1), 1) := by decide +kernel
theorem d_Mo_best_65 : decode b_Mo_best 65 = .ok (.ireturn, 1) := by decide +kernel
theorem d_Mo_best_66 : decode b_Mo_best 66 = .ok (.iconst 0, 1) := by decide +kernel
theorem d_Mo_best_67 : decode b_Mo_best 67 = .ok (.istore 4, 2) := by decide +kernel
theorem d_Mo_best_69 : decode b_Mo_best 69 = .ok (.iload 4, 2) := by decide +kernel
theorem d_Mo_best_71 : decode b_Mo_best 71 = .ok (.aload_n 0, 1) := by decide +kernel
theorem d_Mo_best_72 : decode b_Mo_best 72 = .ok (.getfield 112, 3) := by decide +kernel
theorem d_Mo_best_75 : decode b_Mo_best 75 = .ok (.if_icmp .ge 217, 3) := by decide +kernel
theorem d_Mo_best_78 : decode b_Mo_best 78 = .ok (.iconst 0, 1) := by decide +kernel
theorem d_Mo_best_79 : decode b_Mo_best 79 = .ok (.istore 5, 2) := by decide +kernel
theorem d_Mo_best_81 : decode b_Mo_best 81 = .ok (.iconst 1, 1) := by decide +kernel
theorem d_Mo_best_82 : decode b_Mo_best 82 = .ok (.istore 6, 2) := by decide +kernel
theorem d_Mo_best_84 : decode b_Mo_best 84 = .ok (.iconst 1, 1) := by decide +kernel
theorem d_Mo_best_85 : decode b_Mo_best 85 = .ok (.istore 7, 2) := by decide +kernel
theorem d_Mo_best_87 : decode b_Mo_best 87 = .ok (.iconst 0, 1) := by decide +kernel
theorem d_Mo_best_88 : decode b_Mo_best 88 = .ok (.istore 8, 2) := by decide +kernel
theorem d_Mo_best_90 : decode b_Mo_best 90 = .ok (.iload 8, 2) := by decide +kernel
theorem d_Mo_best_92 : decode b_Mo_best 92 = .ok (.aload_n 0, 1) := by decide +kernel
theorem d_Mo_best_93 : decode b_Mo_best 93 = .ok (.getfield 13, 3) := by decide +kernel
theorem d_Mo_best_96 : decode b_Mo_best 96 = .ok (.iload 4, 2) := by decide +kernel
theorem d_Mo_best_98 : decode b_Mo_best 98 = .ok (.iaload, 1) := by decide +kernel
theorem d_Mo_best_99 : decode b_Mo_best 99 = .ok (.if_icmp .ge 148, 3) := by decide +kernel
theorem d_Mo_best_102 : decode b_Mo_best 102 = .ok (.aload_n 0, 1) := by decide +kernel
theorem d_Mo_best_103 : decode b_Mo_best 103 = .ok (.getfield 35, 3) := by decide +kernel
theorem d_Mo_best_106 : decode b_Mo_best 106 = .ok (.bipush 36, 2) := by decide +kernel
theorem d_Mo_best_108 : decode b_Mo_best 108 = .ok (.iload_n 1, 1) := by decide +kernel
theorem d_Mo_best_109 : decode b_Mo_best 109 = .ok (.imul, 1) := by decide +kernel
theorem d_Mo_best_110 : decode b_Mo_best 110 = .ok (.iconst 3, 1) := by decide +kernel
theorem d_Mo_best_111 : decode b_Mo_best 111 = .ok (.iload 4, 2) := by decide +kernel
theorem d_Mo_best_113 : decode b_Mo_best 113 = .ok (.imul, 1) := by decide +kernel
theorem d_Mo_best_114 : decode b_Mo_best 114 = .ok (.iadd, 1) := by decide +kernel
theorem d_Mo_best_115 : decode b_Mo_best 115 = .ok (.iload 8, 2) := by decide +kernel
theorem d_Mo_best_117 : decode b_Mo_best 117 = .ok (.iadd, 1) := by decide +kernel
theorem d_Mo_best_118 : decode b_Mo_best 118 = .ok (.iaload, 1) := by decide +kernel
theorem d_Mo_best_119 : decode b_Mo_best 119 = .ok (.istore 9, 2) := by decide +kernel
theorem d_Mo_best_121 : decode b_Mo_best 121 = .ok (.iload 9, 2) := by decide +kernel
theorem d_Mo_best_123 : decode b_Mo_best 123 = .ok (.iconst (-1), 1) := by decide +kernel
theorem d_Mo_best_124 : decode b_Mo_best 124 = .ok (.if_icmp .ne 7, 3) := by decide +kernel
theorem d_Mo_best_127 : decode b_Mo_best 127 = .ok (.iconst (-1), 1) := by decide +kernel
theorem d_Mo_best_128 : decode b_Mo_best 128 = .ok (.goto 40, 3) := by decide +kernel
theorem d_Mo_best_131 : decode b_Mo_best 131 = .ok (.iload_n 2, 1) := by decide +kernel
theorem d_Mo_best_132 : decode b_Mo_best 132 = .ok (.iconst 1, 1) := by decide +kernel
theorem d_Mo_best_133 : decode b_Mo_best 133 = .ok (.if_icmp .ne 13, 3) := by decide +kernel
theorem d_Mo_best_136 : decode b_Mo_best 136 = .ok (.aload_n 0, 1) := by decide +kernel
theorem d_Mo_best_137 : decode b_Mo_best 137 = .ok (.getfield 54, 3) := by decide +kernel
theorem d_Mo_best_140 : decode b_Mo_best 140 = .ok (.iload 9, 2) := by decide +kernel
theorem d_Mo_best_142 : decode b_Mo_best 142 = .ok (.iaload, 1) := by decide +kernel
theorem d_Mo_best_143 : decode b_Mo_best 143 = .ok (.goto 25, 3) := by decide +kernel
theorem d_Mo_best_146 : decode b_Mo_best 146 = .ok (.iload_n 2, 1) := by decide +kernel
theorem d_Mo_best_147 : decode b_Mo_best 147 = .ok (.iconst 2, 1) := by decide +kernel
theorem d_Mo_best_148 : decode b_Mo_best 148 = .ok (.if_icmp .ne 13, 3) := by decide +kernel
theorem d_Mo_best_151 : decode b_Mo_best 151 = .ok (.aload_n 0, 1) := by decide +kernel
theorem d_Mo_best_152 : decode b_Mo_best 152 = .ok (.getfield 57, 3) := by decide +kernel
theorem d_Mo_best_155 : decode b_Mo_best 155 = .ok (.iload 9, 2) := by decide +kernel
theorem d_Mo_best_157 : decode b_Mo_best 157 = .ok (.iaload, 1) := by decide +kernel
theorem d_Mo_best_158 : decode b_Mo_best 158 = .ok (.goto 10, 3) := by decide +kernel
theorem d_Mo_best_161 : decode b_Mo_best 161 = .ok (.aload_n 0, 1) := by decide +kernel
theorem d_Mo_best_162 : decode b_Mo_best 162 = .ok (.getfield 60, 3) := by decide +kernel
theorem d_Mo_best_165 : decode b_Mo_best 165 = .ok (.iload 9, 2) := by decide +kernel
theorem d_Mo_best_167 : decode b_Mo_best 167 = .ok (.iaload, 1) := by decide +kernel
theorem d_Mo_best_168 : decode b_Mo_best 168 = .ok (.istore 10, 2) := by decide +kernel
theorem d_Mo_best_170 : decode b_Mo_best 170 = .ok (.iload 10, 2) := by decide +kernel
theorem d_Mo_best_172 : decode b_Mo_best 172 = .ok (.iconst (-1), 1) := by decide +kernel
theorem d_Mo_best_173 : decode b_Mo_best 173 = .ok (.if_icmp .eq 13, 3) := by decide +kernel
theorem d_Mo_best_176 : decode b_Mo_best 176 = .ok (.iload 10, 2) := by decide +kernel
theorem d_Mo_best_178 : decode b_Mo_best 178 = .ok (.iload_n 3, 1) := by decide +kernel
theorem d_Mo_best_179 : decode b_Mo_best 179 = .ok (.if_icmp .ge 7, 3) := by decide +kernel
theorem d_Mo_best_182 : decode b_Mo_best 182 = .ok (.iconst 1, 1) := by decide +kernel
theorem d_Mo_best_183 : decode b_Mo_best 183 = .ok (.goto 4, 3) := by decide +kernel
theorem d_Mo_best_186 : decode b_Mo_best 186 = .ok (.iconst 0, 1) := by decide +kernel
theorem d_Mo_best_187 : decode b_Mo_best 187 = .ok (.istore 11, 2) := by decide +kernel
theorem d_Mo_best_189 : decode b_Mo_best 189 = .ok (.iload 5, 2) := by decide +kernel
theorem d_Mo_best_191 : decode b_Mo_best 191 = .ok (.ifCond .ne 8, 3) := by decide +kernel
theorem d_Mo_best_194 : decode b_Mo_best 194 = .ok (.iload 11, 2) := by decide +kernel
theorem d_Mo_best_196 : decode b_Mo_best 196 = .ok (.ifCond .eq 7, 3) := by decide +kernel
theorem d_Mo_best_199 : decode b_Mo_best 199 = .ok (.iconst 1, 1) := by decide +kernel
theorem d_Mo_best_200 : decode b_Mo_best 200 = .ok (.goto 4, 3) := by decide +kernel
theorem d_Mo_best_203 : decode b_Mo_best 203 = .ok (.iconst 0, 1) := by decide +kernel
theorem d_Mo_best_204 : decode b_Mo_best 204 = .ok (.istore 5, 2) := by decide +kernel
theorem d_Mo_best_206 : decode b_Mo_best 206 = .ok (.iload 6, 2) := by decide +kernel
theorem d_Mo_best_208 : decode b_Mo_best 208 = .ok (.ifCond .eq 12, 3) := by decide +kernel
theorem d_Mo_best_211 : decode b_Mo_best 211 = .ok (.iload 11, 2) := by decide +kernel
theorem d_Mo_best_213 : decode b_Mo_best 213 = .ok (.ifCond .eq 7, 3) := by decide +kernel
theorem d_Mo_best_216 : decode b_Mo_best 216 = .ok (.iconst 1, 1) := by decide +kernel
theorem d_Mo_best_217 : decode b_Mo_best 217 = .ok (.goto 4, 3) := by decide +kernel
theorem d_Mo_best_220 : decode b_Mo_best 220 = .ok (.iconst 0, 1) := by decide +kernel
theorem d_Mo_best_221 : decode b_Mo_best 221 = .ok (.istore 6, 2) := by decide +kernel
theorem d_Mo_best_223 : decode b_Mo_best 223 = .ok (.iload 7, 2) := by decide +kernel
theorem d_Mo_best_225 : decode b_Mo_best 225 = .ok (.ifCond .eq 13, 3) := by decide +kernel
theorem d_Mo_best_228 : decode b_Mo_best 228 = .ok (.iload 10, 2) := by decide +kernel
theorem d_Mo_best_230 : decode b_Mo_best 230 = .ok (.iconst (-1), 1) := by decide +kernel
theorem d_Mo_best_231 : decode b_Mo_best 231 = .ok (.if_icmp .eq 7, 3) := by decide +kernel
theorem d_Mo_best_234 : decode b_Mo_best 234 = .ok (.iconst 1, 1) := by decide +kernel
theorem d_Mo_best_235 : decode b_Mo_best 235 = .ok (.goto 4, 3) := by decide +kernel
theorem d_Mo_best_238 : decode b_Mo_best 238 = .ok (.iconst 0, 1) := by decide +kernel
theorem d_Mo_best_239 : decode b_Mo_best 239 = .ok (.istore 7, 2) := by decide +kernel
theorem d_Mo_best_241 : decode b_Mo_best 241 = .ok (.iinc 8 1, 3) := by decide +kernel
theorem d_Mo_best_244 : decode b_Mo_best 244 = .ok (.goto (-154), 3) := by decide +kernel
theorem d_Mo_best_247 : decode b_Mo_best 247 = .ok (.iload_n 2, 1) := by decide +kernel
theorem d_Mo_best_248 : decode b_Mo_best 248 = .ok (.iconst 1, 1) := by decide +kernel
theorem d_Mo_best_249 : decode b_Mo_best 249 = .ok (.if_icmp .ne 11, 3) := by decide +kernel
theorem d_Mo_best_252 : decode b_Mo_best 252 = .ok (.iload 5, 2) := by decide +kernel
theorem d_Mo_best_254 : decode b_Mo_best 254 = .ok (.ifCond .eq 32, 3) := by decide +kernel
theorem d_Mo_best_257 : decode b_Mo_best 257 = .ok (.goto 26, 3) := by decide +kernel
theorem d_Mo_best_260 : decode b_Mo_best 260 = .ok (.iload_n 2, 1) := by decide +kernel
theorem d_Mo_best_261 : decode b_Mo_best 261 = .ok (.iconst 2, 1) := by decide +kernel
theorem d_Mo_best_262 : decode b_Mo_best 262 = .ok (.if_icmp .ne 11, 3) := by decide +kernel
theorem d_Mo_best_265 : decode b_Mo_best 265 = .ok (.iload 6, 2) := by decide +kernel
theorem d_Mo_best_267 : decode b_Mo_best 267 = .ok (.ifCond .eq 19, 3) := by decide +kernel
theorem d_Mo_best_270 : decode b_Mo_best 270 = .ok (.goto 13, 3) := by decide +kernel
theorem d_Mo_best_273 : decode b_Mo_best 273 = .ok (.iload 5, 2) := by decide +kernel
theorem d_Mo_best_275 : decode b_Mo_best 275 = .ok (.ifCond .eq 11, 3) := by decide +kernel
theorem d_Mo_best_278 : decode b_Mo_best 278 = .ok (.iload 7, 2) := by decide +kernel
theorem d_Mo_best_280 : decode b_Mo_best 280 = .ok (.ifCond .eq 6, 3) := by decide +kernel
theorem d_Mo_best_283 : decode b_Mo_best 283 = .ok (.iload 4, 2) := by decide +kernel
theorem d_Mo_best_285 : decode b_Mo_best 285 = .ok (.ireturn, 1) := by decide +kernel
theorem d_Mo_best_286 : decode b_Mo_best 286 = .ok (.iinc 4 1, 3) := by decide +kernel
theorem d_Mo_best_289 : decode b_Mo_best 289 = .ok (.goto (-220), 3) := by decide +kernel
theorem d_Mo_best_292 : decode b_Mo_best 292 = .ok (.iconst (-1), 1) := by decide +kernel
theorem d_Mo_best_293 : decode b_Mo_best 293 = .ok (.ireturn, 1) := by decide +kernel
theorem d_Mo_play_0 : decode b_Mo_play 0 = .ok (.iload_n 2, 1) := by decide +kernel
theorem d_Mo_play_1 : decode b_Mo_play 1 = .ok (.iconst 0, 1) := by decide +kernel
theorem d_Mo_play_2 : decode b_Mo_play 2 = .ok (.iconst 2, 1) := by decide +kernel
theorem d_Mo_play_3 : decode b_Mo_play 3 = .ok (.invokestatic 118, 3) := by decide +kernel
theorem d_Mo_play_6 : decode b_Mo_play 6 = .ok (.ifCond .ne 6, 3) := by decide +kernel
theorem d_Mo_play_9 : decode b_Mo_play 9 = .ok (.bipush (-2), 2) := by decide +kernel
theorem d_Mo_play_11 : decode b_Mo_play 11 = .ok (.ireturn, 1) := by decide +kernel
theorem d_Mo_play_12 : decode b_Mo_play 12 = .ok (.aload_n 0, 1) := by decide +kernel
theorem d_Mo_play_13 : decode b_Mo_play 13 = .ok (.invokevirtual 191, 3) := by decide +kernel
theorem d_Mo_play_16 : decode b_Mo_play 16 = .ok (.iload_n 1, 1) := by decide +kernel
theorem d_Mo_play_17 : decode b_Mo_play 17 = .ok (.iconst 0, 1) := by decide +kernel
theorem d_Mo_play_18 : decode b_Mo_play 18 = .ok (.aload_n 0, 1) := by decide +kernel
theorem d_Mo_play_19 : decode b_Mo_play 19 = .ok (.getfield 54, 3) := by decide +kernel
theorem d_Mo_play_22 : decode b_Mo_play 22 = .ok (.aload_n 0, 1) := by decide +kernel
theorem d_Mo_play_23 : decode b_Mo_play 23 = .ok (.getfield 109, 3) := by decide +kernel
theorem d_Mo_play_26 : decode b_Mo_play 26 = .ok (.iaload, 1) := by decide +kernel
theorem d_Mo_play_27 : decode b_Mo_play 27 = .ok (.iconst 1, 1) := by decide +kernel
theorem d_Mo_play_28 : decode b_Mo_play 28 = .ok (.isub, 1) := by decide +kernel
theorem d_Mo_play_29 : decode b_Mo_play 29 = .ok (.invokestatic 118, 3) := by decide +kernel
theorem d_Mo_play_32 : decode b_Mo_play 32 = .ok (.ifCond .ne 5, 3) := by decide +kernel
theorem d_Mo_play_35 : decode b_Mo_play 35 = .ok (.iconst (-1), 1) := by decide +kernel
theorem d_Mo_play_36 : decode b_Mo_play 36 = .ok (.ireturn, 1) := by decide +kernel
theorem d_Mo_play_37 : decode b_Mo_play 37 = .ok (.aload_n 0, 1) := by decide +kernel
theorem d_Mo_play_38 : decode b_Mo_play 38 = .ok (.getfield 109, 3) := by decide +kernel
theorem d_Mo_play_41 : decode b_Mo_play 41 = .ok (.istore_n 3, 1) := by decide +kernel
theorem d_Mo_play_42 : decode b_Mo_play 42 = .ok (.iconst 0, 1) := by decide +kernel
theorem d_Mo_play_43 : decode b_Mo_play 43 = .ok (.istore 4, 2) := by decide +kernel
theorem d_Mo_play_45 : decode b_Mo_play 45 = .ok (.iconst 0, 1) := by decide +kernel
theorem d_Mo_play_46 : decode b_Mo_play 46 = .ok (.istore 5, 2) := by decide +kernel
theorem d_Mo_play_48 : decode b_Mo_play 48 = .ok (.iload 5, 2) := by decide +kernel
theorem d_Mo_play_50 : decode b_Mo_play 50 = .ok (.iload_n 1, 1) := by decide +kernel
theorem d_Mo_play_51 : decode b_Mo_play 51 = .ok (.if_icmp .gt 75, 3) := by decide +kernel
theorem d_Mo_play_54 : decode b_Mo_play 54 = .ok (.iconst 0, 1) := by decide +kernel
theorem d_Mo_play_55 : decode b_Mo_play 55 = .ok (.istore 4, 2) := by decide +kernel
theorem d_Mo_play_57 : decode b_Mo_play 57 = .ok (.aload_n 0, 1) := by decide +kernel
theorem d_Mo_play_58 : decode b_Mo_play 58 = .ok (.getfield 35, 3) := by decide +kernel
theorem d_Mo_play_61 : decode b_Mo_play 61 = .ok (.bipush 36, 2) := by decide +kernel
theorem d_Mo_play_63 : decode b_Mo_play 63 = .ok (.iload_n 3, 1) := by decide +kernel
theorem d_Mo_play_64 : decode b_Mo_play 64 = .ok (.imul, 1) := by decide +kernel
theorem d_Mo_play_65 : decode b_Mo_play 65 = .ok (.iload 4, 2) := by decide +kernel
theorem d_Mo_play_67 : decode b_Mo_play 67 = .ok (.iadd, 1) := by decide +kernel
theorem d_Mo_play_68 : decode b_Mo_play 68 = .ok (.iaload, 1) := by decide +kernel
theorem d_Mo_play_69 : decode b_Mo_play 69 = .ok (.iconst (-1), 1) := by decide +kernel
theorem d_Mo_play_70 : decode b_Mo_play 70 = .ok (.if_icmp .eq 31, 3) := by decide +kernel
theorem d_Mo_play_73 : decode b_Mo_play 73 = .ok (.aload_n 0, 1) := by decide +kernel
theorem d_Mo_play_74 : decode b_Mo_play 74 = .ok (.getfield 54, 3) := by decide +kernel
theorem d_Mo_play_77 : decode b_Mo_play 77 = .ok (.aload_n 0, 1) := by decide +kernel
theorem d_Mo_play_78 : decode b_Mo_play 78 = .ok (.getfield 35, 3) := by decide +kernel
theorem d_Mo_play_81 : decode b_Mo_play 81 = .ok (.bipush 36, 2) := by decide +kernel
theorem d_Mo_play_83 : decode b_Mo_play 83 = .ok (.iload_n 3, 1) := by decide +kernel
theorem d_Mo_play_84 : decode b_Mo_play 84 = .ok (.imul, 1) := by decide +kernel
theorem d_Mo_play_85 : decode b_Mo_play 85 = .ok (.iload 4, 2) := by decide +kernel
theorem d_Mo_play_87 : decode b_Mo_play 87 = .ok (.iadd, 1) := by decide +kernel
theorem d_Mo_play_88 : decode b_Mo_play 88 = .ok (.iaload, 1) := by decide +kernel
theorem d_Mo_play_89 : decode b_Mo_play 89 = .ok (.iaload, 1) := by decide +kernel
theorem d_Mo_play_90 : decode b_Mo_play 90 = .ok (.aload_n 0, 1) := by decide +kernel
theorem d_Mo_play_91 : decode b_Mo_play 91 = .ok (.getfield 54, 3) := by decide +kernel
theorem d_Mo_play_94 : decode b_Mo_play 94 = .ok (.iload_n 3, 1) := by decide +kernel
theorem d_Mo_play_95 : decode b_Mo_play 95 = .ok (.iaload, 1) := by decide +kernel
theorem d_Mo_play_96 : decode b_Mo_play 96 = .ok (.iconst 1, 1) := by decide +kernel
theorem d_Mo_play_97 : decode b_Mo_play 97 = .ok (.isub, 1) := by decide +kernel
theorem d_Mo_play_98 : decode b_Mo_play 98 = .ok (.if_icmp .eq 9, 3) := by decide +kernel
theorem d_Mo_play_101 : decode b_Mo_play 101 = .ok (.iinc 4 1, 3) := by decide +kernel
theorem d_Mo_play_104 : decode b_Mo_play 104 = .ok (.goto (-47), 3) := by decide +kernel
theorem d_Mo_play_107 : decode b_Mo_play 107 = .ok (.aload_n 0, 1) := by decide +kernel
theorem d_Mo_play_108 : decode b_Mo_play 108 = .ok (.getfield 35, 3) := by decide +kernel
theorem d_Mo_play_111 : decode b_Mo_play 111 = .ok (.bipush 36, 2) := by decide +kernel
theorem d_Mo_play_113 : decode b_Mo_play 113 = .ok (.iload_n 3, 1) := by decide +kernel
theorem d_Mo_play_114 : decode b_Mo_play 114 = .ok (.imul, 1) := by decide +kernel
theorem d_Mo_play_115 : decode b_Mo_play 115 = .ok (.iload 4, 2) := by decide +kernel
theorem d_Mo_play_117 : decode b_Mo_play 117 = .ok (.iadd, 1) := by decide +kernel
theorem d_Mo_play_118 : decode b_Mo_play 118 = .ok (.iaload, 1) := by decide +kernel
theorem d_Mo_play_119 : decode b_Mo_play 119 = .ok (.istore_n 3, 1) := by decide +kernel
theorem d_Mo_play_120 : decode b_Mo_play 120 = .ok (.iinc 5 1, 3) := by decide +kernel
theorem d_Mo_play_123 : decode b_Mo_play 123 = .ok (.goto (-75), 3) := by decide +kernel
theorem d_Mo_play_126 : decode b_Mo_play 126 = .ok (.iload_n 2, 1) := by decide +kernel
theorem d_Mo_play_127 : decode b_Mo_play 127 = .ok (.ifCond .ne 10, 3) := by decide +kernel
theorem d_Mo_play_130 : decode b_Mo_play 130 = .ok (.iload 4, 2) := by decide +kernel
theorem d_Mo_play_132 : decode b_Mo_play 132 = .ok (.iconst 3, 1) := by decide +kernel
theorem d_Mo_play_133 : decode b_Mo_play 133 = .ok (.idiv, 1) := by decide +kernel
theorem d_Mo_play_134 : decode b_Mo_play 134 = .ok (.goto 16, 3) := by decide +kernel
theorem d_Mo_play_137 : decode b_Mo_play 137 = .ok (.iload_n 2, 1) := by decide +kernel
theorem d_Mo_play_138 : decode b_Mo_play 138 = .ok (.iconst 1, 1) := by decide +kernel
theorem d_Mo_play_139 : decode b_Mo_play 139 = .ok (.if_icmp .ne 10, 3) := by decide +kernel
theorem d_Mo_play_142 : decode b_Mo_play 142 = .ok (.iload 4, 2) := by decide +kernel
theorem d_Mo_play_144 : decode b_Mo_play 144 = .ok (.iconst 3, 1) := by decide +kernel
theorem d_Mo_play_145 : decode b_Mo_play 145 = .ok (.irem, 1) := by decide +kernel
theorem d_Mo_play_146 : decode b_Mo_play 146 = .ok (.goto 4, 3) := by decide +kernel
theorem d_Mo_play_149 : decode b_Mo_play 149 = .ok (.iload_n 3, 1) := by decide +kernel
theorem d_Mo_play_150 : decode b_Mo_play 150 = .ok (.ireturn, 1) := by decide +kernel
theorem d_Mo_plays_0 : decode b_Mo_plays 0 = .ok (.aload_n 0, 1) := by decide +kernel
theorem d_Mo_plays_1 : decode b_Mo_plays 1 = .ok (.invokevirtual 191, 3) := by decide +kernel
theorem d_Mo_plays_4 : decode b_Mo_plays 4 = .ok (.aload_n 0, 1) := by decide +kernel
theorem d_Mo_plays_5 : decode b_Mo_plays 5 = .ok (.getfield 54, 3) := by decide +kernel
theorem d_Mo_plays_8 : decode b_Mo_plays 8 = .ok (.aload_n 0, 1) := by decide +kernel
theorem d_Mo_plays_9 : decode b_Mo_plays 9 = .ok (.getfield 109, 3) := by decide +kernel
theorem d_Mo_plays_12 : decode b_Mo_plays 12 = .ok (.iaload, 1) := by decide +kernel
theorem d_Mo_plays_13 : decode b_Mo_plays 13 = .ok (.iconst (-1), 1) := by decide +kernel
theorem d_Mo_plays_14 : decode b_Mo_plays 14 = .ok (.if_icmp .ne 5, 3) := by decide +kernel
theorem d_Mo_plays_17 : decode b_Mo_plays 17 = .ok (.lconst 0, 1) := by decide +kernel
theorem d_Mo_plays_18 : decode b_Mo_plays 18 = .ok (.lreturn, 1) := by decide +kernel
theorem d_Mo_plays_19 : decode b_Mo_plays 19 = .ok (.iconst 0, 1) := by decide +kernel
theorem d_Mo_plays_20 : decode b_Mo_plays 20 = .ok (.istore_n 1, 1) := by decide +kernel
theorem d_Mo_plays_21 : decode b_Mo_plays 21 = .ok (.iload_n 1, 1) := by decide +kernel
theorem d_Mo_plays_22 : decode b_Mo_plays 22 = .ok (.aload_n 0, 1) := by decide +kernel
theorem d_Mo_plays_23 : decode b_Mo_plays 23 = .ok (.getfield 157, 3) := by decide +kernel
theorem d_Mo_plays_26 : decode b_Mo_plays 26 = .ok (.if_icmp .ge 29, 3) := by decide +kernel
theorem d_Mo_plays_29 : decode b_Mo_plays 29 = .ok (.aload_n 0, 1) := by decide +kernel
theorem d_Mo_plays_30 : decode b_Mo_plays 30 = .ok (.getfield 89, 3) := by decide +kernel
theorem d_Mo_plays_33 : decode b_Mo_plays 33 = .ok (.iload_n 1, 1) := by decide +kernel
theorem d_Mo_plays_34 : decode b_Mo_plays 34 = .ok (.aload_n 0, 1) := by decide +kernel
theorem d_Mo_plays_35 : decode b_Mo_plays 35 = .ok (.getfield 38, 3) := by decide +kernel
theorem d_Mo_plays_38 : decode b_Mo_plays 38 = .ok (.iload_n 1, 1) := by decide +kernel
theorem d_Mo_plays_39 : decode b_Mo_plays 39 = .ok (.baload, 1) := by decide +kernel
theorem d_Mo_plays_40 : decode b_Mo_plays 40 = .ok (.ifCond .eq 7, 3) := by decide +kernel
theorem d_Mo_plays_43 : decode b_Mo_plays 43 = .ok (.lconst 1, 1) := by decide +kernel
theorem d_Mo_plays_44 : decode b_Mo_plays 44 = .ok (.goto 4, 3) := by decide +kernel
theorem d_Mo_plays_47 : decode b_Mo_plays 47 = .ok (.lconst 0, 1) := by decide +kernel
theorem d_Mo_plays_48 : decode b_Mo_plays 48 = .ok (.lastore, 1) := by decide +kernel
theorem d_Mo_plays_49 : decode b_Mo_plays 49 = .ok (.iinc 1 1, 3) := by decide +kernel
theorem d_Mo_plays_52 : decode b_Mo_plays 52 = .ok (.goto (-31), 3) := by decide +kernel
theorem d_Mo_plays_55 : decode b_Mo_plays 55 = .ok (.iconst 0, 1) := by decide +kernel
theorem d_Mo_plays_56 : decode b_Mo_plays 56 = .ok (.istore_n 1, 1) := by decide +kernel
theorem d_Mo_plays_57 : decode b_Mo_plays 57 = .ok (.iconst 1, 1) := by decide +kernel
theorem d_Mo_plays_58 : decode b_Mo_plays 58 = .ok (.istore_n 2, 1) := by decide +kernel
theorem d_Mo_plays_59 : decode b_Mo_plays 59 = .ok (.iload_n 2, 1) := by decide +kernel
theorem d_Mo_plays_60 : decode b_Mo_plays 60 = .ok (.aload_n 0, 1) := by decide +kernel
theorem d_Mo_plays_61 : decode b_Mo_plays 61 = .ok (.getfield 54, 3) := by decide +kernel
theorem d_Mo_plays_64 : decode b_Mo_plays 64 = .ok (.aload_n 0, 1) := by decide +kernel
theorem d_Mo_plays_65 : decode b_Mo_plays 65 = .ok (.getfield 109, 3) := by decide +kernel
theorem d_Mo_plays_68 : decode b_Mo_plays 68 = .ok (.iaload, 1) := by decide +kernel
theorem d_Mo_plays_69 : decode b_Mo_plays 69 = .ok (.if_icmp .gt 110, 3) := by decide +kernel
theorem d_Mo_plays_72 : decode b_Mo_plays 72 = .ok (.iload_n 2, 1) := by decide +kernel
theorem d_Mo_plays_73 : decode b_Mo_plays 73 = .ok (.istore_n 1, 1) := by decide +kernel
theorem d_Mo_plays_74 : decode b_Mo_plays 74 = .ok (.iconst 0, 1) := by decide +kernel
theorem d_Mo_plays_75 : decode b_Mo_plays 75 = .ok (.istore_n 3, 1) := by decide +kernel
theorem d_Mo_plays_76 : decode b_Mo_plays 76 = .ok (.iload_n 3, 1) := by decide +kernel
theorem d_Mo_plays_77 : decode b_Mo_plays 77 = .ok (.aload_n 0, 1) := by decide +kernel
theorem d_Mo_plays_78 : decode b_Mo_plays 78 = .ok (.getfield 157, 3) := by decide +kernel
theorem d_Mo_plays_81 : decode b_Mo_plays 81 = .ok (.if_icmp .ge 92, 3) := by decide +kernel
theorem d_Mo_plays_84 : decode b_Mo_plays 84 = .ok (.iconst 0, 1) := by decide +kernel
theorem d_Mo_plays_85 : decode b_Mo_plays 85 = .ok (.istore 4, 2) := by decide +kernel
theorem d_Mo_plays_87 : decode b_Mo_plays 87 = .ok (.iload 4, 2) := by decide +kernel
theorem d_Mo_plays_89 : decode b_Mo_plays 89 = .ok (.iconst 3, 1) := by decide +kernel
theorem d_Mo_plays_90 : decode b_Mo_plays 90 = .ok (.aload_n 0, 1) := by decide +kernel
theorem d_Mo_plays_91 : decode b_Mo_plays 91 = .ok (.getfield 112, 3) := by decide +kernel
theorem d_Mo_plays_94 : decode b_Mo_plays 94 = .ok (.imul, 1) := by decide +kernel
theorem d_Mo_plays_95 : decode b_Mo_plays 95 = .ok (.if_icmp .ge 72, 3) := by decide +kernel
theorem d_Mo_plays_98 : decode b_Mo_plays 98 = .ok (.aload_n 0, 1) := by decide +kernel
theorem d_Mo_plays_99 : decode b_Mo_plays 99 = .ok (.getfield 54, 3) := by decide +kernel
theorem d_Mo_plays_102 : decode b_Mo_plays 102 = .ok (.iload_n 3, 1) := by decide +kernel
theorem d_Mo_plays_103 : decode b_Mo_plays 103 = .ok (.iaload, 1) := by decide +kernel
theorem d_Mo_plays_104 : decode b_Mo_plays 104 = .ok (.iload_n 1, 1) := by decide +kernel
theorem d_Mo_plays_105 : decode b_Mo_plays 105 = .ok (.if_icmp .ne 62, 3) := by decide +kernel
theorem d_Mo_plays_108 : decode b_Mo_plays 108 = .ok (.aload_n 0, 1) := by decide +kernel
theorem d_Mo_plays_109 : decode b_Mo_plays 109 = .ok (.getfield 35, 3) := by decide +kernel
theorem d_Mo_plays_112 : decode b_Mo_plays 112 = .ok (.bipush 36, 2) := by decide +kernel
theorem d_Mo_plays_114 : decode b_Mo_plays 114 = .ok (.iload_n 3, 1) := by decide +kernel
theorem d_Mo_plays_115 : decode b_Mo_plays 115 = .ok (.imul, 1) := by decide +kernel
theorem d_Mo_plays_116 : decode b_Mo_plays 116 = .ok (.iload 4, 2) := by decide +kernel
theorem d_Mo_plays_118 : decode b_Mo_plays 118 = .ok (.iadd, 1) := by decide +kernel
theorem d_Mo_plays_119 : decode b_Mo_plays 119 = .ok (.iaload, 1) := by decide +kernel
theorem d_Mo_plays_120 : decode b_Mo_plays 120 = .ok (.istore 5, 2) := by decide +kernel
theorem d_Mo_plays_122 : decode b_Mo_plays 122 = .ok (.aload_n 0, 1) := by decide +kernel
theorem d_Mo_plays_123 : decode b_Mo_plays 123 = .ok (.getfield 89, 3) := by decide +kernel
theorem d_Mo_plays_126 : decode b_Mo_plays 126 = .ok (.iload_n 3, 1) := by decide +kernel
theorem d_Mo_plays_127 : decode b_Mo_plays 127 = .ok (.dup2, 1) := by decide +kernel
theorem d_Mo_plays_128 : decode b_Mo_plays 128 = .ok (.laload, 1) := by decide +kernel
theorem d_Mo_plays_129 : decode b_Mo_plays 129 = .ok (.iload 5, 2) := by decide +kernel
theorem d_Mo_plays_131 : decode b_Mo_plays 131 = .ok (.iconst (-1), 1) := by decide +kernel
theorem d_Mo_plays_132 : decode b_Mo_plays 132 = .ok (.if_icmp .eq 26, 3) := by decide +kernel
theorem d_Mo_plays_135 : decode b_Mo_plays 135 = .ok (.aload_n 0, 1) := by decide +kernel
theorem d_Mo_plays_136 : decode b_Mo_plays 136 = .ok (.getfield 54, 3) := by decide +kernel
theorem d_Mo_plays_139 : decode b_Mo_plays 139 = .ok (.iload 5, 2) := by decide +kernel
theorem d_Mo_plays_141 : decode b_Mo_plays 141 = .ok (.iaload, 1) := by decide +kernel
theorem d_Mo_plays_142 : decode b_Mo_plays 142 = .ok (.iload_n 1, 1) := by decide +kernel
theorem d_Mo_plays_143 : decode b_Mo_plays 143 = .ok (.iconst 1, 1) := by decide +kernel
theorem d_Mo_plays_144 : decode b_Mo_plays 144 = .ok (.isub, 1) := by decide +kernel
theorem d_Mo_plays_145 : decode b_Mo_plays 145 = .ok (.if_icmp .ne 13, 3) := by decide +kernel
theorem d_Mo_plays_148 : decode b_Mo_plays 148 = .ok (.aload_n 0, 1) := by decide +kernel
theorem d_Mo_plays_149 : decode b_Mo_plays 149 = .ok (.getfield 89, 3) := by decide +kernel
theorem d_Mo_plays_152 : decode b_Mo_plays 152 = .ok (.iload 5, 2) := by decide +kernel
theorem d_Mo_plays_154 : decode b_Mo_plays 154 = .ok (.laload, 1) := by decide +kernel
theorem d_Mo_plays_155 : decode b_Mo_plays 155 = .ok (.goto 4, 3) := by decide +kernel
theorem d_Mo_plays_158 : decode b_Mo_plays 158 = .ok (.lconst 0, 1) := by decide +kernel
theorem d_Mo_plays_159 : decode b_Mo_plays 159 = .ok (.ladd, 1) := by decide +kernel
theorem d_Mo_plays_160 : decode b_Mo_plays 160 = .ok (.lastore, 1) := by decide +kernel
theorem d_Mo_plays_161 : decode b_Mo_plays 161 = .ok (.iinc 4 1, 3) := by decide +kernel
theorem d_Mo_plays_164 : decode b_Mo_plays 164 = .ok (.goto (-77), 3) := by decide +kernel
theorem d_Mo_plays_167 : decode b_Mo_plays 167 = .ok (.iinc 3 1, 3) := by decide +kernel
theorem d_Mo_plays_170 : decode b_Mo_plays 170 = .ok (.goto (-94), 3) := by decide +kernel
theorem d_Mo_plays_173 : decode b_Mo_plays 173 = .ok (.iinc 2 1, 3) := by decide +kernel
theorem d_Mo_plays_176 : decode b_Mo_plays 176 = .ok (.goto (-117), 3) := by decide +kernel
theorem d_Mo_plays_179 : decode b_Mo_plays 179 = .ok (.aload_n 0, 1) := by decide +kernel
theorem d_Mo_plays_180 : decode b_Mo_plays 180 = .ok (.getfield 89, 3) := by decide +kernel
theorem d_Mo_plays_183 : decode b_Mo_plays 183 = .ok (.aload_n 0, 1) := by decide +kernel
theorem d_Mo_plays_184 : decode b_Mo_plays 184 = .ok (.getfield 109, 3) := by decide +kernel
theorem d_Mo_plays_187 : decode b_Mo_plays 187 = .ok (.laload, 1) := by decide +kernel
theorem d_Mo_plays_188 : decode b_Mo_plays 188 = .ok (.lreturn, 1) := by decide +kernel
theorem d_Mo_needed_0 : decode b_Mo_needed 0 = .ok (.aload_n 0, 1) := by decide +kernel
theorem d_Mo_needed_1 : decode b_Mo_needed 1 = .ok (.invokevirtual 191, 3) := by decide +kernel
theorem d_Mo_needed_4 : decode b_Mo_needed 4 = .ok (.iconst 0, 1) := by decide +kernel
theorem d_Mo_needed_5 : decode b_Mo_needed 5 = .ok (.istore_n 1, 1) := by decide +kernel
theorem d_Mo_needed_6 : decode b_Mo_needed 6 = .ok (.iconst 0, 1) := by decide +kernel
theorem d_Mo_needed_7 : decode b_Mo_needed 7 = .ok (.istore_n 2, 1) := by decide +kernel
theorem d_Mo_needed_8 : decode b_Mo_needed 8 = .ok (.iload_n 2, 1) := by decide +kernel
theorem d_Mo_needed_9 : decode b_Mo_needed 9 = .ok (.aload_n 0, 1) := by decide +kernel
theorem d_Mo_needed_10 : decode b_Mo_needed 10 = .ok (.getfield 112, 3) := by decide +kernel
theorem d_Mo_needed_13 : decode b_Mo_needed 13 = .ok (.if_icmp .ge 29, 3) := by decide +kernel
theorem d_Mo_needed_16 : decode b_Mo_needed 16 = .ok (.iload_n 1, 1) := by decide +kernel
theorem d_Mo_needed_17 : decode b_Mo_needed 17 = .ok (.aload_n 0, 1) := by decide +kernel
theorem d_Mo_needed_18 : decode b_Mo_needed 18 = .ok (.iload_n 2, 1) := by decide +kernel
theorem d_Mo_needed_19 : decode b_Mo_needed 19 = .ok (.iconst (-1), 1) := by decide +kernel
theorem d_Mo_needed_20 : decode b_Mo_needed 20 = .ok (.iconst 0, 1) := by decide +kernel
theorem d_Mo_needed_21 : decode b_Mo_needed 21 = .ok (.invokevirtual 212, 3) := by decide +kernel
theorem d_Mo_needed_24 : decode b_Mo_needed 24 = .ok (.ifCond .eq 7, 3) := by decide +kernel
theorem d_Mo_needed_27 : decode b_Mo_needed 27 = .ok (.iconst 0, 1) := by decide +kernel
theorem d_Mo_needed_28 : decode b_Mo_needed 28 = .ok (.goto 6, 3) := by decide +kernel
theorem d_Mo_needed_31 : decode b_Mo_needed 31 = .ok (.iconst 1, 1) := by decide +kernel
theorem d_Mo_needed_32 : decode b_Mo_needed 32 = .ok (.iload_n 2, 1) := by decide +kernel
theorem d_Mo_needed_33 : decode b_Mo_needed 33 = .ok (.ishl, 1) := by decide +kernel
theorem d_Mo_needed_34 : decode b_Mo_needed 34 = .ok (.ior, 1) := by decide +kernel
theorem d_Mo_needed_35 : decode b_Mo_needed 35 = .ok (.istore_n 1, 1) := by decide +kernel
theorem d_Mo_needed_36 : decode b_Mo_needed 36 = .ok (.iinc 2 1, 3) := by decide +kernel
theorem d_Mo_needed_39 : decode b_Mo_needed 39 = .ok (.goto (-31), 3) := by decide +kernel
theorem d_Mo_needed_42 : decode b_Mo_needed 42 = .ok (.iload_n 1, 1) := by decide +kernel
theorem d_Mo_needed_43 : decode b_Mo_needed 43 = .ok (.ireturn, 1) := by decide +kernel
theorem d_Mo_isReachedWithout_0 : decode b_Mo_isReachedWithout 0 = .ok (.iconst 0, 1) := by decide +kernel
theorem d_Mo_isReachedWithout_1 : decode b_Mo_isReachedWithout 1 = .ok (.istore 4, 2) := by decide +kernel
theorem d_Mo_isReachedWithout_3 : decode b_Mo_isReachedWithout 3 = .ok (.iload 4, 2) := by decide +kernel
theorem d_Mo_isReachedWithout_5 : decode b_Mo_isReachedWithout 5 = .ok (.aload_n 0, 1) := by decide +kernel
theorem d_Mo_isReachedWithout_6 : decode b_Mo_isReachedWithout 6 = .ok (.getfield 157, 3) := by decide +kernel
theorem d_Mo_isReachedWithout_9 : decode b_Mo_isReachedWithout 9 = .ok (.if_icmp .ge 17, 3) := by decide +kernel
theorem d_Mo_isReachedWithout_12 : decode b_Mo_isReachedWithout 12 = .ok (.aload_n 0, 1) := by decide +kernel
theorem d_Mo_isReachedWithout_13 : decode b_Mo_isReachedWithout 13 = .ok (.getfield 92, 3) := by decide +kernel
theorem d_Mo_isReachedWithout_16 : decode b_Mo_isReachedWithout 16 = .ok (.iload 4, 2) := by decide +kernel
theorem d_Mo_isReachedWithout_18 : decode b_Mo_isReachedWithout 18 = .ok (.iconst 0, 1) := by decide +kernel
theorem d_Mo_isReachedWithout_19 : decode b_Mo_isReachedWithout 19 = .ok (.bastore, 1) := by decide +kernel
theorem d_Mo_isReachedWithout_20 : decode b_Mo_isReachedWithout 20 = .ok (.iinc 4 1, 3) := by decide +kernel
theorem d_Mo_isReachedWithout_23 : decode b_Mo_isReachedWithout 23 = .ok (.goto (-20), 3) := by decide +kernel
theorem d_Mo_isReachedWithout_26 : decode b_Mo_isReachedWithout 26 = .ok (.iconst 0, 1) := by decide +kernel
theorem d_Mo_isReachedWithout_27 : decode b_Mo_isReachedWithout 27 = .ok (.istore 4, 2) := by decide +kernel
theorem d_Mo_isReachedWithout_29 : decode b_Mo_isReachedWithout 29 = .ok (.aload_n 0, 1) := by decide +kernel
theorem d_Mo_isReachedWithout_30 : decode b_Mo_isReachedWithout 30 = .ok (.aload_n 0, 1) := by decide +kernel
theorem d_Mo_isReachedWithout_31 : decode b_Mo_isReachedWithout 31 = .ok (.getfield 109, 3) := by decide +kernel
theorem d_Mo_isReachedWithout_34 : decode b_Mo_isReachedWithout 34 = .ok (.iload_n 2, 1) := by decide +kernel
theorem d_Mo_isReachedWithout_35 : decode b_Mo_isReachedWithout 35 = .ok (.iload_n 3, 1) := by decide +kernel
theorem d_Mo_isReachedWithout_36 : decode b_Mo_isReachedWithout 36 = .ok (.invokevirtual 209, 3) := by decide +kernel
theorem d_Mo_isReachedWithout_39 : decode b_Mo_isReachedWithout 39 = .ok (.ifCond .ne 26, 3) := by decide +kernel
theorem d_Mo_isReachedWithout_42 : decode b_Mo_isReachedWithout 42 = .ok (.aload_n 0, 1) := by decide +kernel
theorem d_Mo_isReachedWithout_43 : decode b_Mo_isReachedWithout 43 = .ok (.getfield 92, 3) := by decide +kernel
theorem d_Mo_isReachedWithout_46 : decode b_Mo_isReachedWithout 46 = .ok (.aload_n 0, 1) := by decide +kernel
theorem d_Mo_isReachedWithout_47 : decode b_Mo_isReachedWithout 47 = .ok (.getfield 109, 3) := by decide +kernel
theorem d_Mo_isReachedWithout_50 : decode b_Mo_isReachedWithout 50 = .ok (.iconst 1, 1) := by decide +kernel
theorem d_Mo_isReachedWithout_51 : decode b_Mo_isReachedWithout 51 = .ok (.bastore, 1) := by decide +kernel
theorem d_Mo_isReachedWithout_52 : decode b_Mo_isReachedWithout 52 = .ok (.aload_n 0, 1) := by decide +kernel
theorem d_Mo_isReachedWithout_53 : decode b_Mo_isReachedWithout 53 = .ok (.getfield 63, 3) := by decide +kernel
theorem d_Mo_isReachedWithout_56 : decode b_Mo_isReachedWithout 56 = .ok (.iconst 0, 1) := by decide +kernel
theorem d_Mo_isReachedWithout_57 : decode b_Mo_isReachedWithout 57 = .ok (.aload_n 0, 1) := by decide +kernel
theorem d_Mo_isReachedWithout_58 : decode b_Mo_isReachedWithout 58 = .ok (.getfield 109, 3) := by decide +kernel
theorem d_Mo_isReachedWithout_61 : decode b_Mo_isReachedWithout 61 = .ok (.iastore, 1) := by decide +kernel
theorem d_Mo_isReachedWithout_62 : decode b_Mo_isReachedWithout 62 = .ok (.iconst 1, 1) := by decide +kernel
theorem d_Mo_isReachedWithout_63 : decode b_Mo_isReachedWithout 63 = .ok (.istore 4, 2) := by decide +kernel
theorem d_Mo_isReachedWithout_65 : decode b_Mo_isReachedWithout 65 = .ok (.iconst 0, 1) := by decide +kernel
theorem d_Mo_isReachedWithout_66 : decode b_Mo_isReachedWithout 66 = .ok (.istore 5, 2) := by decide +kernel
theorem d_Mo_isReachedWithout_68 : decode b_Mo_isReachedWithout 68 = .ok (.iload 5, 2) := by decide +kernel
theorem d_Mo_isReachedWithout_70 : decode b_Mo_isReachedWithout 70 = .ok (.iload 4, 2) := by decide +kernel
theorem d_Mo_isReachedWithout_72 : decode b_Mo_isReachedWithout 72 = .ok (.if_icmp .ge 120, 3) := by decide +kernel
theorem d_Mo_isReachedWithout_75 : decode b_Mo_isReachedWithout 75 = .ok (.aload_n 0, 1) := by decide +kernel
theorem d_Mo_isReachedWithout_76 : decode b_Mo_isReachedWithout 76 = .ok (.getfield 63, 3) := by decide +kernel
theorem d_Mo_isReachedWithout_79 : decode b_Mo_isReachedWithout 79 = .ok (.iload 5, 2) := by decide +kernel
theorem d_Mo_isReachedWithout_81 : decode b_Mo_isReachedWithout 81 = .ok (.iaload, 1) := by decide +kernel
theorem d_Mo_isReachedWithout_82 : decode b_Mo_isReachedWithout 82 = .ok (.istore 6, 2) := by decide +kernel
theorem d_Mo_isReachedWithout_84 : decode b_Mo_isReachedWithout 84 = .ok (.aload_n 0, 1) := by decide +kernel
theorem d_Mo_isReachedWithout_85 : decode b_Mo_isReachedWithout 85 = .ok (.getfield 38, 3) := by decide +kernel
theorem d_Mo_isReachedWithout_88 : decode b_Mo_isReachedWithout 88 = .ok (.iload 6, 2) := by decide +kernel
theorem d_Mo_isReachedWithout_90 : decode b_Mo_isReachedWithout 90 = .ok (.baload, 1) := by decide +kernel
theorem d_Mo_isReachedWithout_91 : decode b_Mo_isReachedWithout 91 = .ok (.ifCond .eq 5, 3) := by decide +kernel
theorem d_Mo_isReachedWithout_94 : decode b_Mo_isReachedWithout 94 = .ok (.iconst 1, 1) := by decide +kernel
theorem d_Mo_isReachedWithout_95 : decode b_Mo_isReachedWithout 95 = .ok (.ireturn, 1) := by decide +kernel
theorem d_Mo_isReachedWithout_96 : decode b_Mo_isReachedWithout 96 = .ok (.iconst 0, 1) := by decide +kernel
theorem d_Mo_isReachedWithout_97 : decode b_Mo_isReachedWithout 97 = .ok (.istore 7, 2) := by decide +kernel
theorem d_Mo_isReachedWithout_99 : decode b_Mo_isReachedWithout 99 = .ok (.iload 7, 2) := by decide +kernel
theorem d_Mo_isReachedWithout_101 : decode b_Mo_isReachedWithout 101 = .ok (.iconst 3, 1) := by decide +kernel
theorem d_Mo_isReachedWithout_102 : decode b_Mo_isReachedWithout 102 = .ok (.aload_n 0, 1) := by decide +kernel
theorem d_Mo_isReachedWithout_103 : decode b_Mo_isReachedWithout 103 = .ok (.getfield 112, 3) := by decide +kernel
theorem d_Mo_isReachedWithout_106 : decode b_Mo_isReachedWithout 106 = .ok (.imul, 1) := by decide +kernel
theorem d_Mo_isReachedWithout_107 : decode b_Mo_isReachedWithout 107 = .ok (.if_icmp .ge 79, 3) := by decide +kernel
theorem d_Mo_isReachedWithout_110 : decode b_Mo_isReachedWithout 110 = .ok (.aload_n 0, 1) := by decide +kernel
theorem d_Mo_isReachedWithout_111 : decode b_Mo_isReachedWithout 111 = .ok (.getfield 35, 3) := by decide +kernel
theorem d_Mo_isReachedWithout_114 : decode b_Mo_isReachedWithout 114 = .ok (.bipush 36, 2) := by decide +kernel
theorem d_Mo_isReachedWithout_116 : decode b_Mo_isReachedWithout 116 = .ok (.iload 6, 2) := by decide +kernel
theorem d_Mo_isReachedWithout_118 : decode b_Mo_isReachedWithout 118 = .ok (.imul, 1) := by decide +kernel
theorem d_Mo_isReachedWithout_119 : decode b_Mo_isReachedWithout 119 = .ok (.iload 7, 2) := by decide +kernel
theorem d_Mo_isReachedWithout_121 : decode b_Mo_isReachedWithout 121 = .ok (.iadd, 1) := by decide +kernel
theorem d_Mo_isReachedWithout_122 : decode b_Mo_isReachedWithout 122 = .ok (.iaload, 1) := by decide +kernel
theorem d_Mo_isReachedWithout_123 : decode b_Mo_isReachedWithout 123 = .ok (.istore 8, 2) := by decide +kernel
theorem d_Mo_isReachedWithout_125 : decode b_Mo_isReachedWithout 125 = .ok (.iload 8, 2) := by decide +kernel
theorem d_Mo_isReachedWithout_127 : decode b_Mo_isReachedWithout 127 = .ok (.iconst (-1), 1) := by decide +kernel
theorem d_Mo_isReachedWithout_128 : decode b_Mo_isReachedWithout 128 = .ok (.if_icmp .eq 52, 3) := by decide +kernel
theorem d_Mo_isReachedWithout_131 : decode b_Mo_isReachedWithout 131 = .ok (.iload 7, 2) := by decide +kernel
theorem d_Mo_isReachedWithout_133 : decode b_Mo_isReachedWithout 133 = .ok (.iconst 3, 1) := by decide +kernel
theorem d_Mo_isReachedWithout_134 : decode b_Mo_isReachedWithout 134 = .ok (.idiv, 1) := by decide +kernel
theorem d_Mo_isReachedWithout_135 : decode b_Mo_isReachedWithout 135 = .ok (.iload_n 1, 1) := by decide +kernel
theorem d_Mo_isReachedWithout_136 : decode b_Mo_isReachedWithout 136 = .ok (.if_icmp .eq 44, 3) := by decide +kernel
theorem d_Mo_isReachedWithout_139 : decode b_Mo_isReachedWithout 139 = .ok (.aload_n 0, 1) := by decide +kernel
theorem d_Mo_isReachedWithout_140 : decode b_Mo_isReachedWithout 140 = .ok (.getfield 92, 3) := by decide +kernel
theorem d_Mo_isReachedWithout_143 : decode b_Mo_isReachedWithout 143 = .ok (.iload 8, 2) := by decide +kernel
theorem d_Mo_isReachedWithout_145 : decode b_Mo_isReachedWithout 145 = .ok (.baload, 1) := by decide +kernel
theorem d_Mo_isReachedWithout_146 : decode b_Mo_isReachedWithout 146 = .ok (.ifCond .ne 34, 3) := by decide +kernel
theorem d_Mo_isReachedWithout_149 : decode b_Mo_isReachedWithout 149 = .ok (.aload_n 0, 1) := by decide +kernel
theorem d_Mo_isReachedWithout_150 : decode b_Mo_isReachedWithout 150 = .ok (.iload 8, 2) := by decide +kernel
theorem d_Mo_isReachedWithout_152 : decode b_Mo_isReachedWithout 152 = .ok (.iload_n 2, 1) := by decide +kernel
theorem d_Mo_isReachedWithout_153 : decode b_Mo_isReachedWithout 153 = .ok (.iload_n 3, 1) := by decide +kernel
theorem d_Mo_isReachedWithout_154 : decode b_Mo_isReachedWithout 154 = .ok (.invokevirtual 209, 3) := by decide +kernel
theorem d_Mo_isReachedWithout_157 : decode b_Mo_isReachedWithout 157 = .ok (.ifCond .ne 23, 3) := by decide +kernel
theorem d_Mo_isReachedWithout_160 : decode b_Mo_isReachedWithout 160 = .ok (.aload_n 0, 1) := by decide +kernel
theorem d_Mo_isReachedWithout_161 : decode b_Mo_isReachedWithout 161 = .ok (.getfield 92, 3) := by decide +kernel
theorem d_Mo_isReachedWithout_164 : decode b_Mo_isReachedWithout 164 = .ok (.iload 8, 2) := by decide +kernel
theorem d_Mo_isReachedWithout_166 : decode b_Mo_isReachedWithout 166 = .ok (.iconst 1, 1) := by decide +kernel
theorem d_Mo_isReachedWithout_167 : decode b_Mo_isReachedWithout 167 = .ok (.bastore, 1) := by decide +kernel
theorem d_Mo_isReachedWithout_168 : decode b_Mo_isReachedWithout 168 = .ok (.aload_n 0, 1) := by decide +kernel
theorem d_Mo_isReachedWithout_169 : decode b_Mo_isReachedWithout 169 = .ok (.getfield 63, 3) := by decide +kernel
theorem d_Mo_isReachedWithout_172 : decode b_Mo_isReachedWithout 172 = .ok (.iload 4, 2) := by decide +kernel
theorem d_Mo_isReachedWithout_174 : decode b_Mo_isReachedWithout 174 = .ok (.iload 8, 2) := by decide +kernel
theorem d_Mo_isReachedWithout_176 : decode b_Mo_isReachedWithout 176 = .ok (.iastore, 1) := by decide +kernel
theorem d_Mo_isReachedWithout_177 : decode b_Mo_isReachedWithout 177 = .ok (.iinc 4 1, 3) := by decide +kernel
theorem d_Mo_isReachedWithout_180 : decode b_Mo_isReachedWithout 180 = .ok (.iinc 7 1, 3) := by decide +kernel
theorem d_Mo_isReachedWithout_183 : decode b_Mo_isReachedWithout 183 = .ok (.goto (-84), 3) := by decide +kernel
theorem d_Mo_isReachedWithout_186 : decode b_Mo_isReachedWithout 186 = .ok (.iinc 5 1, 3) := by decide +kernel
theorem d_Mo_isReachedWithout_189 : decode b_Mo_isReachedWithout 189 = .ok (.goto (-121), 3) := by decide +kernel
theorem d_Mo_isReachedWithout_192 : decode b_Mo_isReachedWithout 192 = .ok (.iconst 0, 1) := by decide +kernel
theorem d_Mo_isReachedWithout_193 : decode b_Mo_isReachedWithout 193 = .ok (.ireturn, 1) := by decide +kernel
theorem d_Mo_isBarred_0 : decode b_Mo_isBarred 0 = .ok (.iload_n 2, 1) := by decide +kernel
theorem d_Mo_isBarred_1 : decode b_Mo_isBarred 1 = .ok (.iconst (-1), 1) := by decide +kernel
theorem d_Mo_isBarred_2 : decode b_Mo_isBarred 2 = .ok (.if_icmp .ne 5, 3) := by decide +kernel
theorem d_Mo_isBarred_5 : decode b_Mo_isBarred 5 = .ok (.iconst 0, 1) := by decide +kernel
theorem d_Mo_isBarred_6 : decode b_Mo_isBarred 6 = .ok (.ireturn, 1) := by decide +kernel
theorem d_Mo_isBarred_7 : decode b_Mo_isBarred 7 = .ok (.aload_n 0, 1) := by decide +kernel
theorem d_Mo_isBarred_8 : decode b_Mo_isBarred 8 = .ok (.iload_n 1, 1) := by decide +kernel
theorem d_Mo_isBarred_9 : decode b_Mo_isBarred 9 = .ok (.invokevirtual 146, 3) := by decide +kernel
theorem d_Mo_isBarred_12 : decode b_Mo_isBarred 12 = .ok (.aload_n 0, 1) := by decide +kernel
theorem d_Mo_isBarred_13 : decode b_Mo_isBarred 13 = .ok (.getfield 28, 3) := by decide +kernel
theorem d_Mo_isBarred_16 : decode b_Mo_isBarred 16 = .ok (.iload_n 2, 1) := by decide +kernel
theorem d_Mo_isBarred_17 : decode b_Mo_isBarred 17 = .ok (.iaload, 1) := by decide +kernel
theorem d_Mo_isBarred_18 : decode b_Mo_isBarred 18 = .ok (.iload_n 3, 1) := by decide +kernel
theorem d_Mo_isBarred_19 : decode b_Mo_isBarred 19 = .ok (.if_icmp .ne 7, 3) := by decide +kernel
theorem d_Mo_isBarred_22 : decode b_Mo_isBarred 22 = .ok (.iconst 1, 1) := by decide +kernel
theorem d_Mo_isBarred_23 : decode b_Mo_isBarred 23 = .ok (.goto 4, 3) := by decide +kernel
theorem d_Mo_isBarred_26 : decode b_Mo_isBarred 26 = .ok (.iconst 0, 1) := by decide +kernel
theorem d_Mo_isBarred_27 : decode b_Mo_isBarred 27 = .ok (.ireturn, 1) := by decide +kernel
theorem d_Mo_fact_0 : decode b_Mo_fact 0 = .ok (.aload_n 0, 1) := by decide +kernel
theorem d_Mo_fact_1 : decode b_Mo_fact 1 = .ok (.iload_n 1, 1) := by decide +kernel
theorem d_Mo_fact_2 : decode b_Mo_fact 2 = .ok (.invokevirtual 133, 3) := by decide +kernel
theorem d_Mo_fact_5 : decode b_Mo_fact 5 = .ok (.ifCond .eq 19, 3) := by decide +kernel
theorem d_Mo_fact_8 : decode b_Mo_fact 8 = .ok (.iload_n 2, 1) := by decide +kernel
theorem d_Mo_fact_9 : decode b_Mo_fact 9 = .ok (.iconst 0, 1) := by decide +kernel
theorem d_Mo_fact_10 : decode b_Mo_fact 10 = .ok (.aload_n 0, 1) := by decide +kernel
theorem d_Mo_fact_11 : decode b_Mo_fact 11 = .ok (.getfield 7, 3) := by decide +kernel
theorem d_Mo_fact_14 : decode b_Mo_fact 14 = .ok (.iload_n 1, 1) := by decide +kernel
theorem d_Mo_fact_15 : decode b_Mo_fact 15 = .ok (.iaload, 1) := by decide +kernel
theorem d_Mo_fact_16 : decode b_Mo_fact 16 = .ok (.iconst 1, 1) := by decide +kernel
theorem d_Mo_fact_17 : decode b_Mo_fact 17 = .ok (.isub, 1) := by decide +kernel
theorem d_Mo_fact_18 : decode b_Mo_fact 18 = .ok (.invokestatic 118, 3) := by decide +kernel
theorem d_Mo_fact_21 : decode b_Mo_fact 21 = .ok (.ifCond .ne 6, 3) := by decide +kernel
theorem d_Mo_fact_24 : decode b_Mo_fact 24 = .ok (.bipush (-2), 2) := by decide +kernel
theorem d_Mo_fact_26 : decode b_Mo_fact 26 = .ok (.ireturn, 1) := by decide +kernel
theorem d_Mo_fact_27 : decode b_Mo_fact 27 = .ok (.aload_n 0, 1) := by decide +kernel
theorem d_Mo_fact_28 : decode b_Mo_fact 28 = .ok (.invokevirtual 191, 3) := by decide +kernel
theorem d_Mo_fact_31 : decode b_Mo_fact 31 = .ok (.aload_n 0, 1) := by decide +kernel
theorem d_Mo_fact_32 : decode b_Mo_fact 32 = .ok (.iconst (-1), 1) := by decide +kernel
theorem d_Mo_fact_33 : decode b_Mo_fact 33 = .ok (.iload_n 1, 1) := by decide +kernel
theorem d_Mo_fact_34 : decode b_Mo_fact 34 = .ok (.iload_n 2, 1) := by decide +kernel
theorem d_Mo_fact_35 : decode b_Mo_fact 35 = .ok (.invokevirtual 212, 3) := by decide +kernel
theorem d_Mo_fact_38 : decode b_Mo_fact 38 = .ok (.ifCond .eq 7, 3) := by decide +kernel
theorem d_Mo_fact_41 : decode b_Mo_fact 41 = .ok (.iconst 0, 1) := by decide +kernel
theorem d_Mo_fact_42 : decode b_Mo_fact 42 = .ok (.goto 4, 3) := by decide +kernel
theorem d_Mo_fact_45 : decode b_Mo_fact 45 = .ok (.iconst 1, 1) := by decide +kernel
theorem d_Mo_fact_46 : decode b_Mo_fact 46 = .ok (.ireturn, 1) := by decide +kernel
theorem d_Mo_values_0 : decode b_Mo_values 0 = .ok (.aload_n 0, 1) := by decide +kernel
theorem d_Mo_values_1 : decode b_Mo_values 1 = .ok (.iload_n 1, 1) := by decide +kernel
theorem d_Mo_values_2 : decode b_Mo_values 2 = .ok (.invokevirtual 133, 3) := by decide +kernel
theorem d_Mo_values_5 : decode b_Mo_values 5 = .ok (.ifCond .ne 6, 3) := by decide +kernel
theorem d_Mo_values_8 : decode b_Mo_values 8 = .ok (.bipush (-2), 2) := by decide +kernel
theorem d_Mo_values_10 : decode b_Mo_values 10 = .ok (.ireturn, 1) := by decide +kernel
theorem d_Mo_values_11 : decode b_Mo_values 11 = .ok (.aload_n 0, 1) := by decide +kernel
theorem d_Mo_values_12 : decode b_Mo_values 12 = .ok (.invokevirtual 191, 3) := by decide +kernel
theorem d_Mo_values_15 : decode b_Mo_values 15 = .ok (.iconst 0, 1) := by decide +kernel
theorem d_Mo_values_16 : decode b_Mo_values 16 = .ok (.istore_n 2, 1) := by decide +kernel
theorem d_Mo_values_17 : decode b_Mo_values 17 = .ok (.iconst 0, 1) := by decide +kernel
theorem d_Mo_values_18 : decode b_Mo_values 18 = .ok (.istore_n 3, 1) := by decide +kernel
theorem d_Mo_values_19 : decode b_Mo_values 19 = .ok (.iload_n 3, 1) := by decide +kernel
theorem d_Mo_values_20 : decode b_Mo_values 20 = .ok (.aload_n 0, 1) := by decide +kernel
theorem d_Mo_values_21 : decode b_Mo_values 21 = .ok (.getfield 157, 3) := by decide +kernel
theorem d_Mo_values_24 : decode b_Mo_values 24 = .ok (.if_icmp .ge 35, 3) := by decide +kernel
theorem d_Mo_values_27 : decode b_Mo_values 27 = .ok (.aload_n 0, 1) := by decide +kernel
theorem d_Mo_values_28 : decode b_Mo_values 28 = .ok (.getfield 51, 3) := by decide +kernel
theorem d_Mo_values_31 : decode b_Mo_values 31 = .ok (.iload_n 3, 1) := by decide +kernel
theorem d_Mo_values_32 : decode b_Mo_values 32 = .ok (.iaload, 1) := by decide +kernel
theorem d_Mo_values_33 : decode b_Mo_values 33 = .ok (.iconst (-1), 1) := by decide +kernel
theorem d_Mo_values_34 : decode b_Mo_values 34 = .ok (.if_icmp .eq 19, 3) := by decide +kernel
theorem d_Mo_values_37 : decode b_Mo_values 37 = .ok (.aload_n 0, 1) := by decide +kernel
theorem d_Mo_values_38 : decode b_Mo_values 38 = .ok (.iload_n 3, 1) := by decide +kernel
theorem d_Mo_values_39 : decode b_Mo_values 39 = .ok (.invokevirtual 146, 3) := by decide +kernel
theorem d_Mo_values_42 : decode b_Mo_values 42 = .ok (.iload_n 2, 1) := by decide +kernel
theorem d_Mo_values_43 : decode b_Mo_values 43 = .ok (.iconst 1, 1) := by decide +kernel
theorem d_Mo_values_44 : decode b_Mo_values 44 = .ok (.aload_n 0, 1) := by decide +kernel
theorem d_Mo_values_45 : decode b_Mo_values 45 = .ok (.getfield 28, 3) := by decide +kernel
theorem d_Mo_values_48 : decode b_Mo_values 48 = .ok (.iload_n 1, 1) := by decide +kernel
theorem d_Mo_values_49 : decode b_Mo_values 49 = .ok (.iaload, 1) := by decide +kernel
theorem d_Mo_values_50 : decode b_Mo_values 50 = .ok (.ishl, 1) := by decide +kernel
theorem d_Mo_values_51 : decode b_Mo_values 51 = .ok (.ior, 1) := by decide +kernel
theorem d_Mo_values_52 : decode b_Mo_values 52 = .ok (.istore_n 2, 1) := by decide +kernel
theorem d_Mo_values_53 : decode b_Mo_values 53 = .ok (.iinc 3 1, 3) := by decide +kernel
theorem d_Mo_values_56 : decode b_Mo_values 56 = .ok (.goto (-37), 3) := by decide +kernel
theorem d_Mo_values_59 : decode b_Mo_values 59 = .ok (.iload_n 2, 1) := by decide +kernel
theorem d_Mo_values_60 : decode b_Mo_values 60 = .ok (.ireturn, 1) := by decide +kernel
theorem d_Mo_flaw_0 : decode b_Mo_flaw 0 = .ok (.iload_n 1, 1) := by decide +kernel
theorem d_Mo_flaw_1 : decode b_Mo_flaw 1 = .ok (.iconst 0, 1) := by decide +kernel
theorem d_Mo_flaw_2 : decode b_Mo_flaw 2 = .ok (.iconst 3, 1) := by decide +kernel
theorem d_Mo_flaw_3 : decode b_Mo_flaw 3 = .ok (.invokestatic 118, 3) := by decide +kernel
theorem d_Mo_flaw_6 : decode b_Mo_flaw 6 = .ok (.ifCond .ne 6, 3) := by decide +kernel
theorem d_Mo_flaw_9 : decode b_Mo_flaw 9 = .ok (.bipush (-2), 2) := by decide +kernel
theorem d_Mo_flaw_11 : decode b_Mo_flaw 11 = .ok (.ireturn, 1) := by decide +kernel
theorem d_Mo_flaw_12 : decode b_Mo_flaw 12 = .ok (.aload_n 0, 1) := by decide +kernel
theorem d_Mo_flaw_13 : decode b_Mo_flaw 13 = .ok (.invokevirtual 224, 3) := by decide +kernel
theorem d_Mo_flaw_16 : decode b_Mo_flaw 16 = .ok (.istore_n 2, 1) := by decide +kernel
theorem d_Mo_flaw_17 : decode b_Mo_flaw 17 = .ok (.iload_n 1, 1) := by decide +kernel
theorem d_Mo_flaw_18 : decode b_Mo_flaw 18 = .ok (.ifCond .ne 7, 3) := by decide +kernel
theorem d_Mo_flaw_21 : decode b_Mo_flaw 21 = .ok (.iload_n 2, 1) := by decide +kernel
theorem d_Mo_flaw_22 : decode b_Mo_flaw 22 = .ok (.goto 47, 3) := by decide +kernel
theorem d_Mo_flaw_25 : decode b_Mo_flaw 25 = .ok (.iload_n 1, 1) := by decide +kernel
theorem d_Mo_flaw_26 : decode b_Mo_flaw 26 = .ok (.iconst 1, 1) := by decide +kernel
theorem d_Mo_flaw_27 : decode b_Mo_flaw 27 = .ok (.if_icmp .ne 10, 3) := by decide +kernel
theorem d_Mo_flaw_30 : decode b_Mo_flaw 30 = .ok (.aload_n 0, 1) := by decide +kernel
theorem d_Mo_flaw_31 : decode b_Mo_flaw 31 = .ok (.getfield 215, 3) := by decide +kernel
theorem d_Mo_flaw_34 : decode b_Mo_flaw 34 = .ok (.goto 35, 3) := by decide +kernel
theorem d_Mo_flaw_37 : decode b_Mo_flaw 37 = .ok (.aload_n 0, 1) := by decide +kernel
theorem d_Mo_flaw_38 : decode b_Mo_flaw 38 = .ok (.getfield 218, 3) := by decide +kernel
theorem d_Mo_flaw_41 : decode b_Mo_flaw 41 = .ok (.iconst (-1), 1) := by decide +kernel
theorem d_Mo_flaw_42 : decode b_Mo_flaw 42 = .ok (.if_icmp .ne 7, 3) := by decide +kernel
theorem d_Mo_flaw_45 : decode b_Mo_flaw 45 = .ok (.iconst (-1), 1) := by decide +kernel
theorem d_Mo_flaw_46 : decode b_Mo_flaw 46 = .ok (.goto 23, 3) := by decide +kernel
theorem d_Mo_flaw_49 : decode b_Mo_flaw 49 = .ok (.iload_n 1, 1) := by decide +kernel
theorem d_Mo_flaw_50 : decode b_Mo_flaw 50 = .ok (.iconst 2, 1) := by decide +kernel
theorem d_Mo_flaw_51 : decode b_Mo_flaw 51 = .ok (.if_icmp .ne 12, 3) := by decide +kernel
theorem d_Mo_flaw_54 : decode b_Mo_flaw 54 = .ok (.aload_n 0, 1) := by decide +kernel
theorem d_Mo_flaw_55 : decode b_Mo_flaw 55 = .ok (.getfield 218, 3) := by decide +kernel
theorem d_Mo_flaw_58 : decode b_Mo_flaw 58 = .ok (.iconst 3, 1) := by decide +kernel
theorem d_Mo_flaw_59 : decode b_Mo_flaw 59 = .ok (.idiv, 1) := by decide +kernel
theorem d_Mo_flaw_60 : decode b_Mo_flaw 60 = .ok (.goto 9, 3) := by decide +kernel
theorem d_Mo_flaw_63 : decode b_Mo_flaw 63 = .ok (.aload_n 0, 1) := by decide +kernel
theorem d_Mo_flaw_64 : decode b_Mo_flaw 64 = .ok (.getfield 218, 3) := by decide +kernel
theorem d_Mo_flaw_67 : decode b_Mo_flaw 67 = .ok (.iconst 3, 1) := by decide +kernel
theorem d_Mo_flaw_68 : decode b_Mo_flaw 68 = .ok (.irem, 1) := by decide +kernel
theorem d_Mo_flaw_69 : decode b_Mo_flaw 69 = .ok (.ireturn, 1) := by decide +kernel
theorem d_Mo_findFlaw_0 : decode b_Mo_findFlaw 0 = .ok (.aload_n 0, 1) := by decide +kernel
theorem d_Mo_findFlaw_1 : decode b_Mo_findFlaw 1 = .ok (.invokevirtual 191, 3) := by decide +kernel
theorem d_Mo_findFlaw_4 : decode b_Mo_findFlaw 4 = .ok (.aload_n 0, 1) := by decide +kernel
theorem d_Mo_findFlaw_5 : decode b_Mo_findFlaw 5 = .ok (.iconst (-1), 1) := by decide +kernel
theorem d_Mo_findFlaw_6 : decode b_Mo_findFlaw 6 = .ok (.putfield 215, 3) := by decide +kernel
theorem d_Mo_findFlaw_9 : decode b_Mo_findFlaw 9 = .ok (.aload_n 0, 1) := by decide +kernel
theorem d_Mo_findFlaw_10 : decode b_Mo_findFlaw 10 = .ok (.iconst (-1), 1) := by decide +kernel
theorem d_Mo_findFlaw_11 : decode b_Mo_findFlaw 11 = .ok (.putfield 218, 3) := by decide +kernel
theorem d_Mo_findFlaw_14 : decode b_Mo_findFlaw 14 = .ok (.aload_n 0, 1) := by decide +kernel
theorem d_Mo_findFlaw_15 : decode b_Mo_findFlaw 15 = .ok (.aload_n 0, 1) := by decide +kernel
theorem d_Mo_findFlaw_16 : decode b_Mo_findFlaw 16 = .ok (.getfield 109, 3) := by decide +kernel
theorem d_Mo_findFlaw_19 : decode b_Mo_findFlaw 19 = .ok (.invokevirtual 221, 3) := by decide +kernel
theorem d_Mo_findFlaw_22 : decode b_Mo_findFlaw 22 = .ok (.ifCond .ne 5, 3) := by decide +kernel
theorem d_Mo_findFlaw_25 : decode b_Mo_findFlaw 25 = .ok (.iconst 1, 1) := by decide +kernel
theorem d_Mo_findFlaw_26 : decode b_Mo_findFlaw 26 = .ok (.ireturn, 1) := by decide +kernel
theorem d_Mo_findFlaw_27 : decode b_Mo_findFlaw 27 = .ok (.iconst 0, 1) := by decide +kernel
theorem d_Mo_findFlaw_28 : decode b_Mo_findFlaw 28 = .ok (.istore_n 1, 1) := by decide +kernel
theorem d_Mo_findFlaw_29 : decode b_Mo_findFlaw 29 = .ok (.iload_n 1, 1) := by decide +kernel
theorem d_Mo_findFlaw_30 : decode b_Mo_findFlaw 30 = .ok (.aload_n 0, 1) := by decide +kernel
theorem d_Mo_findFlaw_31 : decode b_Mo_findFlaw 31 = .ok (.getfield 157, 3) := by decide +kernel
theorem d_Mo_findFlaw_34 : decode b_Mo_findFlaw 34 = .ok (.if_icmp .ge 20, 3) := by decide +kernel
theorem d_Mo_findFlaw_37 : decode b_Mo_findFlaw 37 = .ok (.aload_n 0, 1) := by decide +kernel
theorem d_Mo_findFlaw_38 : decode b_Mo_findFlaw 38 = .ok (.getfield 92, 3) := by decide +kernel
theorem d_Mo_findFlaw_41 : decode b_Mo_findFlaw 41 = .ok (.iload_n 1, 1) := by decide +kernel
theorem d_Mo_findFlaw_42 : decode b_Mo_findFlaw 42 = .ok (.aload_n 0, 1) := by decide +kernel
theorem d_Mo_findFlaw_43 : decode b_Mo_findFlaw 43 = .ok (.iload_n 1, 1) := by decide +kernel
theorem d_Mo_findFlaw_44 : decode b_Mo_findFlaw 44 = .ok (.invokevirtual 221, 3) := by decide +kernel
theorem d_Mo_findFlaw_47 : decode b_Mo_findFlaw 47 = .ok (.bastore, 1) := by decide +kernel
theorem d_Mo_findFlaw_48 : decode b_Mo_findFlaw 48 = .ok (.iinc 1 1, 3) := by decide +kernel
theorem d_Mo_findFlaw_51 : decode b_Mo_findFlaw 51 = .ok (.goto (-22), 3) := by decide +kernel
theorem d_Mo_findFlaw_54 : decode b_Mo_findFlaw 54 = .ok (.iconst 0, 1) := by decide +kernel
theorem d_Mo_findFlaw_55 : decode b_Mo_findFlaw 55 = .ok (.istore_n 1, 1) := by decide +kernel
theorem d_Mo_findFlaw_56 : decode b_Mo_findFlaw 56 = .ok (.iload_n 1, 1) := by decide +kernel
theorem d_Mo_findFlaw_57 : decode b_Mo_findFlaw 57 = .ok (.aload_n 0, 1) := by decide +kernel
theorem d_Mo_findFlaw_58 : decode b_Mo_findFlaw 58 = .ok (.getfield 157, 3) := by decide +kernel
theorem d_Mo_findFlaw_61 : decode b_Mo_findFlaw 61 = .ok (.if_icmp .ge 74, 3) := by decide +kernel
theorem d_Mo_findFlaw_64 : decode b_Mo_findFlaw 64 = .ok (.iconst 0, 1) := by decide +kernel
theorem d_Mo_findFlaw_65 : decode b_Mo_findFlaw 65 = .ok (.istore_n 2, 1) := by decide +kernel
theorem d_Mo_findFlaw_66 : decode b_Mo_findFlaw 66 = .ok (.iload_n 2, 1) := by decide +kernel
theorem d_Mo_findFlaw_67 : decode b_Mo_findFlaw 67 = .ok (.iconst 3, 1) := by decide +kernel
theorem d_Mo_findFlaw_68 : decode b_Mo_findFlaw 68 = .ok (.aload_n 0, 1) := by decide +kernel
theorem d_Mo_findFlaw_69 : decode b_Mo_findFlaw 69 = .ok (.getfield 112, 3) := by decide +kernel
theorem d_Mo_findFlaw_72 : decode b_Mo_findFlaw 72 = .ok (.imul, 1) := by decide +kernel
theorem d_Mo_findFlaw_73 : decode b_Mo_findFlaw 73 = .ok (.if_icmp .ge 56, 3) := by decide +kernel
theorem d_Mo_findFlaw_76 : decode b_Mo_findFlaw 76 = .ok (.aload_n 0, 1) := by decide +kernel
theorem d_Mo_findFlaw_77 : decode b_Mo_findFlaw 77 = .ok (.getfield 92, 3) := by decide +kernel
theorem d_Mo_findFlaw_80 : decode b_Mo_findFlaw 80 = .ok (.iload_n 1, 1) := by decide +kernel
theorem d_Mo_findFlaw_81 : decode b_Mo_findFlaw 81 = .ok (.baload, 1) := by decide +kernel
theorem d_Mo_findFlaw_82 : decode b_Mo_findFlaw 82 = .ok (.ifCond .eq 47, 3) := by decide +kernel
theorem d_Mo_findFlaw_85 : decode b_Mo_findFlaw 85 = .ok (.aload_n 0, 1) := by decide +kernel
theorem d_Mo_findFlaw_86 : decode b_Mo_findFlaw 86 = .ok (.getfield 35, 3) := by decide +kernel
theorem d_Mo_findFlaw_89 : decode b_Mo_findFlaw 89 = .ok (.bipush 36, 2) := by decide +kernel
theorem d_Mo_findFlaw_91 : decode b_Mo_findFlaw 91 = .ok (.iload_n 1, 1) := by decide +kernel
theorem d_Mo_findFlaw_92 : decode b_Mo_findFlaw 92 = .ok (.imul, 1) := by decide +kernel
theorem d_Mo_findFlaw_93 : decode b_Mo_findFlaw 93 = .ok (.iload_n 2, 1) := by decide +kernel
theorem d_Mo_findFlaw_94 : decode b_Mo_findFlaw 94 = .ok (.iadd, 1) := by decide +kernel
theorem d_Mo_findFlaw_95 : decode b_Mo_findFlaw 95 = .ok (.iaload, 1) := by decide +kernel
theorem d_Mo_findFlaw_96 : decode b_Mo_findFlaw 96 = .ok (.istore_n 3, 1) := by decide +kernel
theorem d_Mo_findFlaw_97 : decode b_Mo_findFlaw 97 = .ok (.iload_n 3, 1) := by decide +kernel
theorem d_Mo_findFlaw_98 : decode b_Mo_findFlaw 98 = .ok (.iconst (-1), 1) := by decide +kernel
theorem d_Mo_findFlaw_99 : decode b_Mo_findFlaw 99 = .ok (.if_icmp .eq 24, 3) := by decide +kernel
theorem d_Mo_findFlaw_102 : decode b_Mo_findFlaw 102 = .ok (.aload_n 0, 1) := by decide +kernel
theorem d_Mo_findFlaw_103 : decode b_Mo_findFlaw 103 = .ok (.getfield 92, 3) := by decide +kernel
theorem d_Mo_findFlaw_106 : decode b_Mo_findFlaw 106 = .ok (.iload_n 3, 1) := by decide +kernel
theorem d_Mo_findFlaw_107 : decode b_Mo_findFlaw 107 = .ok (.baload, 1) := by decide +kernel
theorem d_Mo_findFlaw_108 : decode b_Mo_findFlaw 108 = .ok (.ifCond .ne 15, 3) := by decide +kernel
theorem d_Mo_findFlaw_111 : decode b_Mo_findFlaw 111 = .ok (.aload_n 0, 1) := by decide +kernel
theorem d_Mo_findFlaw_112 : decode b_Mo_findFlaw 112 = .ok (.iload_n 1, 1) := by decide +kernel
theorem d_Mo_findFlaw_113 : decode b_Mo_findFlaw 113 = .ok (.putfield 215, 3) := by decide +kernel
theorem d_Mo_findFlaw_116 : decode b_Mo_findFlaw 116 = .ok (.aload_n 0, 1) := by decide +kernel
theorem d_Mo_findFlaw_117 : decode b_Mo_findFlaw 117 = .ok (.iload_n 2, 1) := by decide +kernel
theorem d_Mo_findFlaw_118 : decode b_Mo_findFlaw 118 = .ok (.putfield 218, 3) := by decide +kernel
theorem d_Mo_findFlaw_121 : decode b_Mo_findFlaw 121 = .ok (.iconst 2, 1) := by decide +kernel
theorem d_Mo_findFlaw_122 : decode b_Mo_findFlaw 122 = .ok (.ireturn, 1) := by decide +kernel
theorem d_Mo_findFlaw_123 : decode b_Mo_findFlaw 123 = .ok (.iinc 2 1, 3) := by decide +kernel
theorem d_Mo_findFlaw_126 : decode b_Mo_findFlaw 126 = .ok (.goto (-60), 3) := by decide +kernel
theorem d_Mo_findFlaw_129 : decode b_Mo_findFlaw 129 = .ok (.iinc 1 1, 3) := by decide +kernel
theorem d_Mo_findFlaw_132 : decode b_Mo_findFlaw 132 = .ok (.goto (-76), 3) := by decide +kernel
theorem d_Mo_findFlaw_135 : decode b_Mo_findFlaw 135 = .ok (.iconst 0, 1) := by decide +kernel
theorem d_Mo_findFlaw_136 : decode b_Mo_findFlaw 136 = .ok (.istore_n 1, 1) := by decide +kernel
theorem d_Mo_findFlaw_137 : decode b_Mo_findFlaw 137 = .ok (.iload_n 1, 1) := by decide +kernel
theorem d_Mo_findFlaw_138 : decode b_Mo_findFlaw 138 = .ok (.aload_n 0, 1) := by decide +kernel
theorem d_Mo_findFlaw_139 : decode b_Mo_findFlaw 139 = .ok (.getfield 157, 3) := by decide +kernel
theorem d_Mo_findFlaw_142 : decode b_Mo_findFlaw 142 = .ok (.if_icmp .ge 34, 3) := by decide +kernel
theorem d_Mo_findFlaw_145 : decode b_Mo_findFlaw 145 = .ok (.aload_n 0, 1) := by decide +kernel
theorem d_Mo_findFlaw_146 : decode b_Mo_findFlaw 146 = .ok (.getfield 92, 3) := by decide +kernel
theorem d_Mo_findFlaw_149 : decode b_Mo_findFlaw 149 = .ok (.iload_n 1, 1) := by decide +kernel
theorem d_Mo_findFlaw_150 : decode b_Mo_findFlaw 150 = .ok (.baload, 1) := by decide +kernel
theorem d_Mo_findFlaw_151 : decode b_Mo_findFlaw 151 = .ok (.ifCond .eq 19, 3) := by decide +kernel
theorem d_Mo_findFlaw_154 : decode b_Mo_findFlaw 154 = .ok (.aload_n 0, 1) := by decide +kernel
theorem d_Mo_findFlaw_155 : decode b_Mo_findFlaw 155 = .ok (.getfield 38, 3) := by decide +kernel
theorem d_Mo_findFlaw_158 : decode b_Mo_findFlaw 158 = .ok (.iload_n 1, 1) := by decide +kernel
theorem d_Mo_findFlaw_159 : decode b_Mo_findFlaw 159 = .ok (.baload, 1) := by decide +kernel
theorem d_Mo_findFlaw_160 : decode b_Mo_findFlaw 160 = .ok (.ifCond .eq 10, 3) := by decide +kernel
theorem d_Mo_findFlaw_163 : decode b_Mo_findFlaw 163 = .ok (.aload_n 0, 1) := by decide +kernel
theorem d_Mo_findFlaw_164 : decode b_Mo_findFlaw 164 = .ok (.iload_n 1, 1) := by decide +kernel
theorem d_Mo_findFlaw_165 : decode b_Mo_findFlaw 165 = .ok (.putfield 215, 3) := by decide +kernel
theorem d_Mo_findFlaw_168 : decode b_Mo_findFlaw 168 = .ok (.iconst 3, 1) := by decide +kernel
theorem d_Mo_findFlaw_169 : decode b_Mo_findFlaw 169 = .ok (.ireturn, 1) := by decide +kernel
theorem d_Mo_findFlaw_170 : decode b_Mo_findFlaw 170 = .ok (.iinc 1 1, 3) := by decide +kernel
theorem d_Mo_findFlaw_173 : decode b_Mo_findFlaw 173 = .ok (.goto (-36), 3) := by decide +kernel
theorem d_Mo_findFlaw_176 : decode b_Mo_findFlaw 176 = .ok (.iconst 0, 1) := by decide +kernel
theorem d_Mo_findFlaw_177 : decode b_Mo_findFlaw 177 = .ok (.ireturn, 1) := by decide +kernel
theorem d_Mo_isCovered_0 : decode b_Mo_isCovered 0 = .ok (.aload_n 0, 1) := by decide +kernel
theorem d_Mo_isCovered_1 : decode b_Mo_isCovered 1 = .ok (.iload_n 1, 1) := by decide +kernel
theorem d_Mo_isCovered_2 : decode b_Mo_isCovered 2 = .ok (.invokevirtual 146, 3) := by decide +kernel
theorem d_Mo_isCovered_5 : decode b_Mo_isCovered 5 = .ok (.iconst 0, 1) := by decide +kernel
theorem d_Mo_isCovered_6 : decode b_Mo_isCovered 6 = .ok (.istore_n 2, 1) := by decide +kernel
theorem d_Mo_isCovered_7 : decode b_Mo_isCovered 7 = .ok (.iload_n 2, 1) := by decide +kernel
theorem d_Mo_isCovered_8 : decode b_Mo_isCovered 8 = .ok (.aload_n 0, 1) := by decide +kernel
theorem d_Mo_isCovered_9 : decode b_Mo_isCovered 9 = .ok (.getfield 115, 3) := by decide +kernel
theorem d_Mo_isCovered_12 : decode b_Mo_isCovered 12 = .ok (.if_icmp .ge 22, 3) := by decide +kernel
theorem d_Mo_isCovered_15 : decode b_Mo_isCovered 15 = .ok (.aload_n 0, 1) := by decide +kernel
theorem d_Mo_isCovered_16 : decode b_Mo_isCovered 16 = .ok (.bipush 13, 2) := by decide +kernel
theorem d_Mo_isCovered_18 : decode b_Mo_isCovered 18 = .ok (.iload_n 2, 1) := by decide +kernel
theorem d_Mo_isCovered_19 : decode b_Mo_isCovered 19 = .ok (.iadd, 1) := by decide +kernel
theorem d_Mo_isCovered_20 : decode b_Mo_isCovered 20 = .ok (.invokevirtual 150, 3) := by decide +kernel
theorem d_Mo_isCovered_23 : decode b_Mo_isCovered 23 = .ok (.ifCond .eq 5, 3) := by decide +kernel
theorem d_Mo_isCovered_26 : decode b_Mo_isCovered 26 = .ok (.iconst 1, 1) := by decide +kernel
theorem d_Mo_isCovered_27 : decode b_Mo_isCovered 27 = .ok (.ireturn, 1) := by decide +kernel
theorem d_Mo_isCovered_28 : decode b_Mo_isCovered 28 = .ok (.iinc 2 1, 3) := by decide +kernel
theorem d_Mo_isCovered_31 : decode b_Mo_isCovered 31 = .ok (.goto (-24), 3) := by decide +kernel
theorem d_Mo_isCovered_34 : decode b_Mo_isCovered 34 = .ok (.iconst 0, 1) := by decide +kernel
theorem d_Mo_isCovered_35 : decode b_Mo_isCovered 35 = .ok (.ireturn, 1) := by decide +kernel
set_option maxRecDepth 100000 in
set_option maxHeartbeats 4000000 in
theorem S_Mo_init_0 {G : Gc} {M : Mc} {Q : State → Prop} {K : Option Value → Hp → Prop} (hG : gok G) (hM : mok G M r_Mo_init Q K) (v0 : Nat) (h : Hp) (F : kX h + 1 ≤ gB G + capC ∧ kS h + 8 ≤ capS ∧ (∀ h1 : Hp, h1 = wA h 50 8 8 → (kT h1 v0 = 12 ∧ (∀ h2 : Hp, h2 = wR h1 v0 1 (some (kX h)) → (kX h2 + 1 ≤ gB G + capC ∧ kS h2 + 12 ≤ capS ∧ (∀ h3 : Hp, h3 = wA h2 50 12 12 → (kT h3 v0 = 12 ∧ (∀ h4 : Hp, h4 = wR h3 v0 4 (some (kX h2)) → (kX h4 + 1 ≤ gB G + capC ∧ kS h4 + 19 ≤ capS ∧ (∀ h5 : Hp, h5 = wA h4 50 19 19 → (kT h5 v0 = 12 ∧ (∀ h6 : Hp, h6 = wR h5 v0 5 (some (kX h4)) → (kX h6 + 1 ≤ gB G + capC ∧ kS h6 + 228 ≤ capS ∧ (∀ h7 : Hp, h7 = wA h6 50 228 228 → (kT h7 v0 = 12 ∧ (∀ h8 : Hp, h8 = wR h7 v0 6 (some (kX h6)) → (kX h8 + 1 ≤ gB G + capC ∧ kS h8 + 36 ≤ capS ∧ (∀ h9 : Hp, h9 = wA h8 50 36 36 → (kT h9 v0 = 12 ∧ (∀ h10 : Hp, h10 = wR h9 v0 7 (some (kX h8)) → (kX h10 + 1 ≤ gB G + capC ∧ kS h10 + 432 ≤ capS ∧ (∀ h11 : Hp, h11 = wA h10 50 432 432 → (kT h11 v0 = 12 ∧ (∀ h12 : Hp, h12 = wR h11 v0 8 (some (kX h10)) → (kX h12 + 1 ≤ gB G + capC ∧ kS h12 + 8 ≤ capS ∧ (∀ h13 : Hp, h13 = wA h12 50 8 8 → (kT h13 v0 = 12 ∧ (∀ h14 : Hp, h14 = wR h13 v0 10 (some (kX h12)) → (kX h14 + 1 ≤ gB G + capC ∧ kS h14 + 8 ≤ capS ∧ (∀ h15 : Hp, h15 = wA h14 50 8 8 → (kT h15 v0 = 12 ∧ (∀ h16 : Hp, h16 = wR h15 v0 11 (some (kX h14)) → (kX h16 + 1 ≤ gB G + capC ∧ kS h16 + 147456 ≤ capS ∧ (∀ h17 : Hp, h17 = wA h16 50 147456 147456 → (kT h17 v0 = 12 ∧ (∀ h18 : Hp, h18 = wR h17 v0 14 (some (kX h16)) → (kX h18 + 1 ≤ gB G + capC ∧ kS h18 + 4096 ≤ capS ∧ (∀ h19 : Hp, h19 = wA h18 51 4096 4096 → (kT h19 v0 = 12 ∧ (∀ h20 : Hp, h20 = wR h19 v0 15 (some (kX h18)) → (kX h20 + 1 ≤ gB G + capC ∧ kS h20 + 4096 ≤ capS ∧ (∀ h21 : Hp, h21 = wA h20 50 4096 4096 → (kT h21 v0 = 12 ∧ (∀ h22 : Hp, h22 = wR h21 v0 16 (some (kX h20)) → (kX h22 + 1 ≤ gB G + capC ∧ kS h22 + 147456 ≤ capS ∧ (∀ h23 : Hp, h23 = wA h22 50 147456 147456 → (kT h23 v0 = 12 ∧ (∀ h24 : Hp, h24 = wR h23 v0 17 (some (kX h22)) → (kX h24 + 1 ≤ gB G + capC ∧ kS h24 + 147456 ≤ capS ∧ (∀ h25 : Hp, h25 = wA h24 50 147456 147456 → (kT h25 v0 = 12 ∧ (∀ h26 : Hp, h26 = wR h25 v0 18 (some (kX h24)) → (kX h26 + 1 ≤ gB G + capC ∧ kS h26 + 4096 ≤ capS ∧ (∀ h27 : Hp, h27 = wA h26 50 4096 4096 → (kT h27 v0 = 12 ∧ (∀ h28 : Hp, h28 = wR h27 v0 19 (some (kX h26)) → (kX h28 + 1 ≤ gB G + capC ∧ kS h28 + 4096 ≤ capS ∧ (∀ h29 : Hp, h29 = wA h28 50 4096 4096 → (kT h29 v0 = 12 ∧ (∀ h30 : Hp, h30 = wR h29 v0 20 (some (kX h28)) → (kX h30 + 1 ≤ gB G + capC ∧ kS h30 + 4096 ≤ capS ∧ (∀ h31 : Hp, h31 = wA h30 50 4096 4096 → (kT h31 v0 = 12 ∧ (∀ h32 : Hp, h32 = wR h31 v0 21 (some (kX h30)) → (kX h32 + 1 ≤ gB G + capC ∧ kS h32 + 4096 ≤ capS ∧ (∀ h33 : Hp, h33 = wA h32 50 4096 4096 → (kT h33 v0 = 12 ∧ (∀ h34 : Hp, h34 = wR h33 v0 22 (some (kX h32)) → (kX h34 + 1 ≤ gB G + capC ∧ kS h34 + 4096 ≤ capS ∧ (∀ h35 : Hp, h35 = wA h34 50 4096 4096 → (kT h35 v0 = 12 ∧ (∀ h36 : Hp, h36 = wR h35 v0 23 (some (kX h34)) → (kX h36 + 1 ≤ gB G + capC ∧ kS h36 + 49152 ≤ capS ∧ (∀ h37 : Hp, h37 = wA h36 50 49152 49152 → (kT h37 v0 = 12 ∧ (∀ h38 : Hp, h38 = wR h37 v0 24 (some (kX h36)) → (kX h38 + 1 ≤ gB G + capC ∧ kS h38 + 4096 ≤ capS ∧ (∀ h39 : Hp, h39 = wA h38 51 4096 4096 → (kT h39 v0 = 12 ∧ (∀ h40 : Hp, h40 = wR h39 v0 25 (some (kX h38)) → (kX h40 + 1 ≤ gB G + capC ∧ kS h40 + 4096 ≤ capS ∧ (∀ h41 : Hp, h41 = wA h40 50 4096 4096 → (kT h41 v0 = 12 ∧ (∀ h42 : Hp, h42 = wR h41 v0 27 (some (kX h40)) → (kX h42 + 1 ≤ gB G + capC ∧ kS h42 + 4096 ≤ capS ∧ (∀ h43 : Hp, h43 = wA h42 50 4096 4096 → (kT h43 v0 = 12 ∧ (∀ h44 : Hp, h44 = wR h43 v0 28 (some (kX h42)) → (kX h44 + 1 ≤ gB G + capC ∧ kS h44 + 4096 ≤ capS ∧ (∀ h45 : Hp, h45 = wA h44 52 4096 4096 → (kT h45 v0 = 12 ∧ (∀ h46 : Hp, h46 = wR h45 v0 29 (some (kX h44)) → (kX h46 + 1 ≤ gB G + capC ∧ kS h46 + 8192 ≤ capS ∧ (∀ h47 : Hp, h47 = wA h46 50 8192 8192 → (kT h47 v0 = 12 ∧ (∀ h48 : Hp, h48 = wR h47 v0 30 (some (kX h46)) → (kX h48 + 1 ≤ gB G + capC ∧ kS h48 + 4096 ≤ capS ∧ (∀ h49 : Hp, h49 = wA h48 50 4096 4096 → (kT h49 v0 = 12 ∧ (∀ h50 : Hp, h50 = wR h49 v0 31 (some (kX h48)) → (kX h50 + 1 ≤ gB G + capC ∧ kS h50 + 4096 ≤ capS ∧ (∀ h51 : Hp, h51 = wA h50 52 4096 4096 → (kT h51 v0 = 12 ∧ (∀ h52 : Hp, h52 = wR h51 v0 33 (some (kX h50)) → (kX h52 + 1 ≤ gB G + capC ∧ kS h52 + 4096 ≤ capS ∧ (∀ h53 : Hp, h53 = wA h52 51 4096 4096 → (kT h53 v0 = 12 ∧ (∀ h54 : Hp, h54 = wR h53 v0 34 (some (kX h52)) → (kT h54 v0 = 12 ∧ sem G r_Mo_forget [.ref v0] h54 (fun u56 h55 => u56 = none ∧ K none h55)))))))))))))))))))))))))))))))))))))))))))))))))))))))))))))))))))))))))))))))))))))))))))))))))))))))))))))) : X G M Q 0 [(0, .ref v0)] [] h := by
  refine x_aload_n hM d_Mo_init_0 rfl 0 rfl ?_
  refine x_objInit hG hM rfl w_890 w_22 w_objcode d_Mo_init_1 (Nat.le_of_ble_eq_true rfl) (Nat.le_of_ble_eq_true rfl) (Nat.le_of_ble_eq_true rfl) ?_
  refine x_aload_n hM d_Mo_init_4 rfl 0 rfl ?_
  refine x_bipush (v := 8) hM d_Mo_init_5 (by decide) ?_
  obtain ⟨c137, F⟩ := F
  obtain ⟨c138, F⟩ := F
  replace F := F _ rfl
  refine x_newI hG hM (N := 8) w_63 d_Mo_init_7 (by decide) rfl c137 c138 ?_
  obtain ⟨c136, F⟩ := F
  replace F := F _ rfl
  refine x_putr hG hM ck_Mo 1 (Nat.le_of_ble_eq_true rfl) (Or.inr ⟨_, rfl⟩) rfl w_898 rfl d_Mo_init_9 (Or.inr ⟨rfl, rfl, rfl⟩) c136 ?_
  refine x_aload_n hM d_Mo_init_12 rfl 0 rfl ?_
  refine x_bipush (v := 12) hM d_Mo_init_13 (by decide) ?_
  obtain ⟨c134, F⟩ := F
  obtain ⟨c135, F⟩ := F
  replace F := F _ rfl
  refine x_newI hG hM (N := 12) w_63 d_Mo_init_15 (by decide) rfl c134 c135 ?_
  obtain ⟨c133, F⟩ := F
  replace F := F _ rfl
  refine x_putr hG hM ck_Mo 4 (Nat.le_of_ble_eq_true rfl) (Or.inr ⟨_, rfl⟩) rfl w_901 rfl d_Mo_init_17 (Or.inr ⟨rfl, rfl, rfl⟩) c133 ?_
  refine x_aload_n hM d_Mo_init_20 rfl 0 rfl ?_
  refine x_bipush (v := 19) hM d_Mo_init_21 (by decide) ?_
  obtain ⟨c131, F⟩ := F
  obtain ⟨c132, F⟩ := F
  replace F := F _ rfl
  refine x_newI hG hM (N := 19) w_63 d_Mo_init_23 (by decide) rfl c131 c132 ?_
  obtain ⟨c130, F⟩ := F
  replace F := F _ rfl
  refine x_putr hG hM ck_Mo 5 (Nat.le_of_ble_eq_true rfl) (Or.inr ⟨_, rfl⟩) rfl w_902 rfl d_Mo_init_25 (Or.inr ⟨rfl, rfl, rfl⟩) c130 ?_
  refine x_aload_n hM d_Mo_init_28 rfl 0 rfl ?_
  refine x_sipush (v := 228) hM d_Mo_init_29 (by decide) ?_
  obtain ⟨c128, F⟩ := F
  obtain ⟨c129, F⟩ := F
  replace F := F _ rfl
  refine x_newI hG hM (N := 228) w_63 d_Mo_init_32 (by decide) rfl c128 c129 ?_
  obtain ⟨c127, F⟩ := F
  replace F := F _ rfl
  refine x_putr hG hM ck_Mo 6 (Nat.le_of_ble_eq_true rfl) (Or.inr ⟨_, rfl⟩) rfl w_903 rfl d_Mo_init_34 (Or.inr ⟨rfl, rfl, rfl⟩) c127 ?_
  refine x_aload_n hM d_Mo_init_37 rfl 0 rfl ?_
  refine x_bipush (v := 36) hM d_Mo_init_38 (by decide) ?_
  obtain ⟨c125, F⟩ := F
  obtain ⟨c126, F⟩ := F
  replace F := F _ rfl
  refine x_newI hG hM (N := 36) w_63 d_Mo_init_40 (by decide) rfl c125 c126 ?_
  obtain ⟨c124, F⟩ := F
  replace F := F _ rfl
  refine x_putr hG hM ck_Mo 7 (Nat.le_of_ble_eq_true rfl) (Or.inr ⟨_, rfl⟩) rfl w_904 rfl d_Mo_init_42 (Or.inr ⟨rfl, rfl, rfl⟩) c124 ?_
  refine x_aload_n hM d_Mo_init_45 rfl 0 rfl ?_
  refine x_sipush (v := 432) hM d_Mo_init_46 (by decide) ?_
  obtain ⟨c122, F⟩ := F
  obtain ⟨c123, F⟩ := F
  replace F := F _ rfl
  refine x_newI hG hM (N := 432) w_63 d_Mo_init_49 (by decide) rfl c122 c123 ?_
  obtain ⟨c121, F⟩ := F
  replace F := F _ rfl
  refine x_putr hG hM ck_Mo 8 (Nat.le_of_ble_eq_true rfl) (Or.inr ⟨_, rfl⟩) rfl w_905 rfl d_Mo_init_51 (Or.inr ⟨rfl, rfl, rfl⟩) c121 ?_
  refine x_aload_n hM d_Mo_init_54 rfl 0 rfl ?_
  refine x_bipush (v := 8) hM d_Mo_init_55 (by decide) ?_
  obtain ⟨c119, F⟩ := F
  obtain ⟨c120, F⟩ := F
  replace F := F _ rfl
  refine x_newI hG hM (N := 8) w_63 d_Mo_init_57 (by decide) rfl c119 c120 ?_
  obtain ⟨c118, F⟩ := F
  replace F := F _ rfl
  refine x_putr hG hM ck_Mo 10 (Nat.le_of_ble_eq_true rfl) (Or.inr ⟨_, rfl⟩) rfl w_907 rfl d_Mo_init_59 (Or.inr ⟨rfl, rfl, rfl⟩) c118 ?_
  refine x_aload_n hM d_Mo_init_62 rfl 0 rfl ?_
  refine x_bipush (v := 8) hM d_Mo_init_63 (by decide) ?_
  obtain ⟨c116, F⟩ := F
  obtain ⟨c117, F⟩ := F
  replace F := F _ rfl
  refine x_newI hG hM (N := 8) w_63 d_Mo_init_65 (by decide) rfl c116 c117 ?_
  obtain ⟨c115, F⟩ := F
  replace F := F _ rfl
  refine x_putr hG hM ck_Mo 11 (Nat.le_of_ble_eq_true rfl) (Or.inr ⟨_, rfl⟩) rfl w_908 rfl d_Mo_init_67 (Or.inr ⟨rfl, rfl, rfl⟩) c115 ?_
  refine x_aload_n hM d_Mo_init_70 rfl 0 rfl ?_
  refine x_ldc hG hM rfl w_891 d_Mo_init_71 ?_
  obtain ⟨c113, F⟩ := F
  obtain ⟨c114, F⟩ := F
  replace F := F _ rfl
  refine x_newI hG hM (N := 147456) w_63 d_Mo_init_73 (by decide) rfl c113 c114 ?_
  obtain ⟨c112, F⟩ := F
  replace F := F _ rfl
  refine x_putr hG hM ck_Mo 14 (Nat.le_of_ble_eq_true rfl) (Or.inr ⟨_, rfl⟩) rfl w_911 rfl d_Mo_init_75 (Or.inr ⟨rfl, rfl, rfl⟩) c112 ?_
  refine x_aload_n hM d_Mo_init_78 rfl 0 rfl ?_
  refine x_sipush (v := 4096) hM d_Mo_init_79 (by decide) ?_
  obtain ⟨c110, F⟩ := F
  obtain ⟨c111, F⟩ := F
  replace F := F _ rfl
  refine x_newZ hG hM (N := 4096) w_226 d_Mo_init_82 (by decide) rfl c110 c111 ?_
  obtain ⟨c109, F⟩ := F
  replace F := F _ rfl
  refine x_putr hG hM ck_Mo 15 (Nat.le_of_ble_eq_true rfl) (Or.inr ⟨_, rfl⟩) rfl w_912 rfl d_Mo_init_84 (Or.inr ⟨rfl, rfl, rfl⟩) c109 ?_
  refine x_aload_n hM d_Mo_init_87 rfl 0 rfl ?_
  refine x_sipush (v := 4096) hM d_Mo_init_88 (by decide) ?_
  obtain ⟨c107, F⟩ := F
  obtain ⟨c108, F⟩ := F
  replace F := F _ rfl
  refine x_newI hG hM (N := 4096) w_63 d_Mo_init_91 (by decide) rfl c107 c108 ?_
  obtain ⟨c106, F⟩ := F
  replace F := F _ rfl
  refine x_putr hG hM ck_Mo 16 (Nat.le_of_ble_eq_true rfl) (Or.inr ⟨_, rfl⟩) rfl w_913 rfl d_Mo_init_93 (Or.inr ⟨rfl, rfl, rfl⟩) c106 ?_
  refine x_aload_n hM d_Mo_init_96 rfl 0 rfl ?_
  refine x_ldc hG hM rfl w_891 d_Mo_init_97 ?_
  obtain ⟨c104, F⟩ := F
  obtain ⟨c105, F⟩ := F
  replace F := F _ rfl
  refine x_newI hG hM (N := 147456) w_63 d_Mo_init_99 (by decide) rfl c104 c105 ?_
  obtain ⟨c103, F⟩ := F
  replace F := F _ rfl
  refine x_putr hG hM ck_Mo 17 (Nat.le_of_ble_eq_true rfl) (Or.inr ⟨_, rfl⟩) rfl w_914 rfl d_Mo_init_101 (Or.inr ⟨rfl, rfl, rfl⟩) c103 ?_
  refine x_aload_n hM d_Mo_init_104 rfl 0 rfl ?_
  refine x_ldc hG hM rfl w_891 d_Mo_init_105 ?_
  obtain ⟨c101, F⟩ := F
  obtain ⟨c102, F⟩ := F
  replace F := F _ rfl
  refine x_newI hG hM (N := 147456) w_63 d_Mo_init_107 (by decide) rfl c101 c102 ?_
  obtain ⟨c100, F⟩ := F
  replace F := F _ rfl
  refine x_putr hG hM ck_Mo 18 (Nat.le_of_ble_eq_true rfl) (Or.inr ⟨_, rfl⟩) rfl w_915 rfl d_Mo_init_109 (Or.inr ⟨rfl, rfl, rfl⟩) c100 ?_
  refine x_aload_n hM d_Mo_init_112 rfl 0 rfl ?_
  refine x_sipush (v := 4096) hM d_Mo_init_113 (by decide) ?_
  obtain ⟨c98, F⟩ := F
  obtain ⟨c99, F⟩ := F
  replace F := F _ rfl
  refine x_newI hG hM (N := 4096) w_63 d_Mo_init_116 (by decide) rfl c98 c99 ?_
  obtain ⟨c97, F⟩ := F
  replace F := F _ rfl
  refine x_putr hG hM ck_Mo 19 (Nat.le_of_ble_eq_true rfl) (Or.inr ⟨_, rfl⟩) rfl w_916 rfl d_Mo_init_118 (Or.inr ⟨rfl, rfl, rfl⟩) c97 ?_
  refine x_aload_n hM d_Mo_init_121 rfl 0 rfl ?_
  refine x_sipush (v := 4096) hM d_Mo_init_122 (by decide) ?_
  obtain ⟨c95, F⟩ := F
  obtain ⟨c96, F⟩ := F
  replace F := F _ rfl
  refine x_newI hG hM (N := 4096) w_63 d_Mo_init_125 (by decide) rfl c95 c96 ?_
  obtain ⟨c94, F⟩ := F
  replace F := F _ rfl
  refine x_putr hG hM ck_Mo 20 (Nat.le_of_ble_eq_true rfl) (Or.inr ⟨_, rfl⟩) rfl w_917 rfl d_Mo_init_127 (Or.inr ⟨rfl, rfl, rfl⟩) c94 ?_
  refine x_aload_n hM d_Mo_init_130 rfl 0 rfl ?_
  refine x_sipush (v := 4096) hM d_Mo_init_131 (by decide) ?_
  obtain ⟨c92, F⟩ := F
  obtain ⟨c93, F⟩ := F
  replace F := F _ rfl
  refine x_newI hG hM (N := 4096) w_63 d_Mo_init_134 (by decide) rfl c92 c93 ?_
  obtain ⟨c91, F⟩ := F
  replace F := F _ rfl
  refine x_putr hG hM ck_Mo 21 (Nat.le_of_ble_eq_true rfl) (Or.inr ⟨_, rfl⟩) rfl w_918 rfl d_Mo_init_136 (Or.inr ⟨rfl, rfl, rfl⟩) c91 ?_
  refine x_aload_n hM d_Mo_init_139 rfl 0 rfl ?_
  refine x_sipush (v := 4096) hM d_Mo_init_140 (by decide) ?_
  obtain ⟨c89, F⟩ := F
  obtain ⟨c90, F⟩ := F
  replace F := F _ rfl
  refine x_newI hG hM (N := 4096) w_63 d_Mo_init_143 (by decide) rfl c89 c90 ?_
  obtain ⟨c88, F⟩ := F
  replace F := F _ rfl
  refine x_putr hG hM ck_Mo 22 (Nat.le_of_ble_eq_true rfl) (Or.inr ⟨_, rfl⟩) rfl w_919 rfl d_Mo_init_145 (Or.inr ⟨rfl, rfl, rfl⟩) c88 ?_
  refine x_aload_n hM d_Mo_init_148 rfl 0 rfl ?_
  refine x_sipush (v := 4096) hM d_Mo_init_149 (by decide) ?_
  obtain ⟨c86, F⟩ := F
  obtain ⟨c87, F⟩ := F
  replace F := F _ rfl
  refine x_newI hG hM (N := 4096) w_63 d_Mo_init_152 (by decide) rfl c86 c87 ?_
  obtain ⟨c85, F⟩ := F
  replace F := F _ rfl
  refine x_putr hG hM ck_Mo 23 (Nat.le_of_ble_eq_true rfl) (Or.inr ⟨_, rfl⟩) rfl w_920 rfl d_Mo_init_154 (Or.inr ⟨rfl, rfl, rfl⟩) c85 ?_
  refine x_aload_n hM d_Mo_init_157 rfl 0 rfl ?_
  refine x_ldc hG hM rfl w_892 d_Mo_init_158 ?_
  obtain ⟨c83, F⟩ := F
  obtain ⟨c84, F⟩ := F
  replace F := F _ rfl
  refine x_newI hG hM (N := 49152) w_63 d_Mo_init_160 (by decide) rfl c83 c84 ?_
  obtain ⟨c82, F⟩ := F
  replace F := F _ rfl
  refine x_putr hG hM ck_Mo 24 (Nat.le_of_ble_eq_true rfl) (Or.inr ⟨_, rfl⟩) rfl w_921 rfl d_Mo_init_162 (Or.inr ⟨rfl, rfl, rfl⟩) c82 ?_
  refine x_aload_n hM d_Mo_init_165 rfl 0 rfl ?_
  refine x_sipush (v := 4096) hM d_Mo_init_166 (by decide) ?_
  obtain ⟨c80, F⟩ := F
  obtain ⟨c81, F⟩ := F
  replace F := F _ rfl
  refine x_newZ hG hM (N := 4096) w_226 d_Mo_init_169 (by decide) rfl c80 c81 ?_
  obtain ⟨c79, F⟩ := F
  replace F := F _ rfl
  refine x_putr hG hM ck_Mo 25 (Nat.le_of_ble_eq_true rfl) (Or.inr ⟨_, rfl⟩) rfl w_922 rfl d_Mo_init_171 (Or.inr ⟨rfl, rfl, rfl⟩) c79 ?_
  refine x_aload_n hM d_Mo_init_174 rfl 0 rfl ?_
  refine x_sipush (v := 4096) hM d_Mo_init_175 (by decide) ?_
  obtain ⟨c77, F⟩ := F
  obtain ⟨c78, F⟩ := F
  replace F := F _ rfl
  refine x_newI hG hM (N := 4096) w_63 d_Mo_init_178 (by decide) rfl c77 c78 ?_
  obtain ⟨c76, F⟩ := F
  replace F := F _ rfl
  refine x_putr hG hM ck_Mo 27 (Nat.le_of_ble_eq_true rfl) (Or.inr ⟨_, rfl⟩) rfl w_924 rfl d_Mo_init_180 (Or.inr ⟨rfl, rfl, rfl⟩) c76 ?_
  refine x_aload_n hM d_Mo_init_183 rfl 0 rfl ?_
  refine x_sipush (v := 4096) hM d_Mo_init_184 (by decide) ?_
  obtain ⟨c74, F⟩ := F
  obtain ⟨c75, F⟩ := F
  replace F := F _ rfl
  refine x_newI hG hM (N := 4096) w_63 d_Mo_init_187 (by decide) rfl c74 c75 ?_
  obtain ⟨c73, F⟩ := F
  replace F := F _ rfl
  refine x_putr hG hM ck_Mo 28 (Nat.le_of_ble_eq_true rfl) (Or.inr ⟨_, rfl⟩) rfl w_925 rfl d_Mo_init_189 (Or.inr ⟨rfl, rfl, rfl⟩) c73 ?_
  refine x_aload_n hM d_Mo_init_192 rfl 0 rfl ?_
  refine x_sipush (v := 4096) hM d_Mo_init_193 (by decide) ?_
  obtain ⟨c71, F⟩ := F
  obtain ⟨c72, F⟩ := F
  replace F := F _ rfl
  refine x_newL hG hM (N := 4096) w_276 d_Mo_init_196 (by decide) rfl c71 c72 ?_
  obtain ⟨c70, F⟩ := F
  replace F := F _ rfl
  refine x_putr hG hM ck_Mo 29 (Nat.le_of_ble_eq_true rfl) (Or.inr ⟨_, rfl⟩) rfl w_926 rfl d_Mo_init_198 (Or.inr ⟨rfl, rfl, rfl⟩) c70 ?_
  refine x_aload_n hM d_Mo_init_201 rfl 0 rfl ?_
  refine x_sipush (v := 8192) hM d_Mo_init_202 (by decide) ?_
  obtain ⟨c68, F⟩ := F
  obtain ⟨c69, F⟩ := F
  replace F := F _ rfl
  refine x_newI hG hM (N := 8192) w_63 d_Mo_init_205 (by decide) rfl c68 c69 ?_
  obtain ⟨c67, F⟩ := F
  replace F := F _ rfl
  refine x_putr hG hM ck_Mo 30 (Nat.le_of_ble_eq_true rfl) (Or.inr ⟨_, rfl⟩) rfl w_927 rfl d_Mo_init_207 (Or.inr ⟨rfl, rfl, rfl⟩) c67 ?_
  refine x_aload_n hM d_Mo_init_210 rfl 0 rfl ?_
  refine x_sipush (v := 4096) hM d_Mo_init_211 (by decide) ?_
  obtain ⟨c65, F⟩ := F
  obtain ⟨c66, F⟩ := F
  replace F := F _ rfl
  refine x_newI hG hM (N := 4096) w_63 d_Mo_init_214 (by decide) rfl c65 c66 ?_
  obtain ⟨c64, F⟩ := F
  replace F := F _ rfl
  refine x_putr hG hM ck_Mo 31 (Nat.le_of_ble_eq_true rfl) (Or.inr ⟨_, rfl⟩) rfl w_928 rfl d_Mo_init_216 (Or.inr ⟨rfl, rfl, rfl⟩) c64 ?_
  refine x_aload_n hM d_Mo_init_219 rfl 0 rfl ?_
  refine x_sipush (v := 4096) hM d_Mo_init_220 (by decide) ?_
  obtain ⟨c62, F⟩ := F
  obtain ⟨c63, F⟩ := F
  replace F := F _ rfl
  refine x_newL hG hM (N := 4096) w_276 d_Mo_init_223 (by decide) rfl c62 c63 ?_
  obtain ⟨c61, F⟩ := F
  replace F := F _ rfl
  refine x_putr hG hM ck_Mo 33 (Nat.le_of_ble_eq_true rfl) (Or.inr ⟨_, rfl⟩) rfl w_930 rfl d_Mo_init_225 (Or.inr ⟨rfl, rfl, rfl⟩) c61 ?_
  refine x_aload_n hM d_Mo_init_228 rfl 0 rfl ?_
  refine x_sipush (v := 4096) hM d_Mo_init_229 (by decide) ?_
  obtain ⟨c59, F⟩ := F
  obtain ⟨c60, F⟩ := F
  replace F := F _ rfl
  refine x_newZ hG hM (N := 4096) w_226 d_Mo_init_232 (by decide) rfl c59 c60 ?_
  obtain ⟨c58, F⟩ := F
  replace F := F _ rfl
  refine x_putr hG hM ck_Mo 34 (Nat.le_of_ble_eq_true rfl) (Or.inr ⟨_, rfl⟩) rfl w_931 rfl d_Mo_init_234 (Or.inr ⟨rfl, rfl, rfl⟩) c58 ?_
  refine x_aload_n hM d_Mo_init_237 rfl 0 rfl ?_
  obtain ⟨c57, F⟩ := F
  refine x_callV hG hM (r' := r_Mo_forget) (ci := 11) [] rfl rfl (Nat.le_of_ble_eq_true rfl) yk_Mo_forget ⟨Nat.le_of_ble_eq_true rfl, Nat.le_of_ble_eq_true rfl⟩ w_893 w_895 ws_Mo_forget rfl rfl (Nat.le_of_ble_eq_true rfl) d_Mo_init_238 c57 (sem_mono F ?_)
  intro u56 h55 F
  obtain ⟨rfl, F⟩ := F
  exact x_return hM d_Mo_init_241 rfl F
set_option maxRecDepth 100000 in
set_option maxHeartbeats 4000000 in
theorem S_Mo_forget_0 {G : Gc} {M : Mc} {Q : State → Prop} {K : Option Value → Hp → Prop} (hG : gok G) (hM : mok G M r_Mo_forget Q K) (v0 : Nat) (h : Hp) (F : kT h v0 = 12 ∧ (∀ h1 : Hp, h1 = wI h v0 12 0 → (kT h1 v0 = 12 ∧ (∀ h2 : Hp, h2 = wI h1 v0 26 0 → K none h2)))) : X G M Q 0 [(0, .ref v0)] [] h := by
  refine x_aload_n hM d_Mo_forget_0 rfl 0 rfl ?_
  refine x_iconst (v := 0) hM d_Mo_forget_1 (by decide) ?_
  obtain ⟨c4, F⟩ := F
  replace F := F _ rfl
  refine x_putz hG hM ck_Mo 12 (Nat.le_of_ble_eq_true rfl) rfl rfl w_909 rfl d_Mo_forget_2 (Or.inl rfl) c4 (Or.inl rfl) ?_
  refine x_aload_n hM d_Mo_forget_5 rfl 0 rfl ?_
  refine x_iconst (v := 0) hM d_Mo_forget_6 (by decide) ?_
  obtain ⟨c3, F⟩ := F
  replace F := F _ rfl
  refine x_putz hG hM ck_Mo 26 (Nat.le_of_ble_eq_true rfl) rfl rfl w_923 rfl d_Mo_forget_7 (Or.inl rfl) c3 (Or.inl rfl) ?_
  exact x_return hM d_Mo_forget_10 rfl F
set_option maxRecDepth 100000 in
set_option maxHeartbeats 4000000 in
theorem S_Mo_clear_0 {G : Gc} {M : Mc} {Q : State → Prop} {K : Option Value → Hp → Prop} (hG : gok G) (hM : mok G M r_Mo_clear Q K) (v0 : Nat) (h : Hp) (F : kT h v0 = 12 ∧ (kT h v0 = 12 ∧ (∀ h1 : Hp, h1 = wI h v0 0 0 → (kT h1 v0 = 12 ∧ (∀ h2 : Hp, h2 = wI h1 v0 2 0 → (kT h2 v0 = 12 ∧ (∀ h3 : Hp, h3 = wI h2 v0 3 0 → (kT h3 v0 = 12 ∧ (∀ h4 : Hp, h4 = wI h3 v0 9 0 → (kT h4 v0 = 12 ∧ kR h4 v0 5 = some (rf h4 v0 5) ∧ (kT h4 (rf h4 v0 5) = 50 ∧ vp_in 12 (kN h4 (rf h4 v0 5)) ∧ (∀ h5 : Hp, h5 = wI h4 (rf h4 v0 5) (Int32.toNatClampNeg 12) 0 → (kT h5 v0 = 12 ∧ sem G r_Mo_forget [.ref v0] h5 (fun u7 h6 => u7 = none ∧ K (some (.int (kI h v0 0))) h6)))))))))))))) : X G M Q 0 [(0, .ref v0)] [] h := by
  refine x_aload_n hM d_Mo_clear_0 rfl 0 rfl ?_
  obtain ⟨c17, F⟩ := F
  refine x_geti hG hM ck_Mo 0 (Nat.le_of_ble_eq_true rfl) rfl rfl w_897 rfl d_Mo_clear_1 c17 ?_
  refine x_istore_n (lv2 := [(1, .int (kI h v0 0)), (0, .ref v0)]) hM d_Mo_clear_4 rfl (Nat.le_of_ble_eq_true rfl) rfl ?_
  refine x_aload_n hM d_Mo_clear_5 rfl 1 rfl ?_
  refine x_iconst (v := 0) hM d_Mo_clear_6 (by decide) ?_
  obtain ⟨c16, F⟩ := F
  replace F := F _ rfl
  refine x_puti hG hM ck_Mo 0 (Nat.le_of_ble_eq_true rfl) rfl rfl w_897 rfl d_Mo_clear_7 (Or.inl rfl) c16 ?_
  refine x_aload_n hM d_Mo_clear_10 rfl 1 rfl ?_
  refine x_iconst (v := 0) hM d_Mo_clear_11 (by decide) ?_
  obtain ⟨c15, F⟩ := F
  replace F := F _ rfl
  refine x_puti hG hM ck_Mo 2 (Nat.le_of_ble_eq_true rfl) rfl rfl w_899 rfl d_Mo_clear_12 (Or.inl rfl) c15 ?_
  refine x_aload_n hM d_Mo_clear_15 rfl 1 rfl ?_
  refine x_iconst (v := 0) hM d_Mo_clear_16 (by decide) ?_
  obtain ⟨c14, F⟩ := F
  replace F := F _ rfl
  refine x_puti hG hM ck_Mo 3 (Nat.le_of_ble_eq_true rfl) rfl rfl w_900 rfl d_Mo_clear_17 (Or.inl rfl) c14 ?_
  refine x_aload_n hM d_Mo_clear_20 rfl 1 rfl ?_
  refine x_iconst (v := 0) hM d_Mo_clear_21 (by decide) ?_
  obtain ⟨c13, F⟩ := F
  replace F := F _ rfl
  refine x_puti hG hM ck_Mo 9 (Nat.le_of_ble_eq_true rfl) rfl rfl w_906 rfl d_Mo_clear_22 (Or.inl rfl) c13 ?_
  refine x_aload_n hM d_Mo_clear_25 rfl 1 rfl ?_
  obtain ⟨c11, F⟩ := F
  obtain ⟨c12, F⟩ := F
  refine x_getr hG hM ck_Mo 5 (Nat.le_of_ble_eq_true rfl) rfl rfl w_902 rfl d_Mo_clear_26 c11 c12 ?_
  refine x_bipush (v := 12) hM d_Mo_clear_29 (by decide) ?_
  refine x_iconst (v := 0) hM d_Mo_clear_31 (by decide) ?_
  obtain ⟨c9, F⟩ := F
  obtain ⟨c10, F⟩ := F
  replace F := F _ rfl
  refine x_iastore hG hM d_Mo_clear_32 c9 c10 ?_
  refine x_aload_n hM d_Mo_clear_33 rfl 1 rfl ?_
  obtain ⟨c8, F⟩ := F
  refine x_callV hG hM (r' := r_Mo_forget) (ci := 11) [] rfl rfl (Nat.le_of_ble_eq_true rfl) yk_Mo_forget ⟨Nat.le_of_ble_eq_true rfl, Nat.le_of_ble_eq_true rfl⟩ w_893 w_895 ws_Mo_forget rfl rfl (Nat.le_of_ble_eq_true rfl) d_Mo_clear_34 c8 (sem_mono F ?_)
  intro u7 h6 F
  obtain ⟨rfl, F⟩ := F
  refine x_iload_n hM d_Mo_clear_37 rfl 0 rfl ?_
  exact x_ireturn hM d_Mo_clear_38 rfl F
set_option maxRecDepth 100000 in
set_option maxHeartbeats 4000000 in
theorem S_Mo_thing_0 {G : Gc} {M : Mc} {Q : State → Prop} {K : Option Value → Hp → Prop} (hG : gok G) (hM : mok G M r_Mo_thing Q K) (v0 : Nat) (v1 : Int32) (h : Hp) (F : sem G r_Mo_isIn [.int v1, .int 2, .int 4] h (fun u2 h1 => ∃ x3 : Int32, u2 = some (.int x3) ∧ ((x3 = 0 → K (some (.int (-2))) h1) ∧ (¬ x3 = 0 → (kT h1 v0 = 12 ∧ ((0 < (kI h1 v0 3) → K (some (.int (-2))) h1) ∧ (¬ 0 < (kI h1 v0 3) → (kT h1 v0 = 12 ∧ ((0 < (kI h1 v0 9) → K (some (.int (-2))) h1) ∧ (¬ 0 < (kI h1 v0 9) → (kT h1 v0 = 12 ∧ kR h1 v0 5 = some (rf h1 v0 5) ∧ (kT h1 (rf h1 v0 5) = 50 ∧ vp_in 12 (kN h1 (rf h1 v0 5)) ∧ (((kI h1 (rf h1 v0 5) (Int32.toNatClampNeg 12)) ≤ 0 → (kT h1 v0 = 12 ∧ (((kI h1 v0 0) = 8 → K (some (.int (-3))) h1) ∧ (¬ (kI h1 v0 0) = 8 → (kT h1 v0 = 12 ∧ sem G r_Mo_states [.ref v0] h1 (fun u5 h4 => ∃ x6 : Int32, u5 = some (.int x6) ∧ (((x6 * v1) ≤ 4096 → (kT h4 v0 = 12 ∧ kR h4 v0 1 = some (rf h4 v0 1) ∧ (kT h4 v0 = 12 ∧ (kT h4 (rf h4 v0 1) = 50 ∧ vp_in (kI h4 v0 0) (kN h4 (rf h4 v0 1)) ∧ (∀ h7 : Hp, h7 = wI h4 (rf h4 v0 1) (Int32.toNatClampNeg (kI h4 v0 0)) v1 → (kT h7 v0 = 12 ∧ (kT h7 v0 = 12 ∧ (∀ h8 : Hp, h8 = wI h7 v0 0 ((kI h7 v0 0) + 1) → (kT h8 v0 = 12 ∧ sem G r_Mo_forget [.ref v0] h8 (fun u10 h9 => u10 = none ∧ (kT h9 v0 = 12 ∧ K (some (.int ((kI h9 v0 0) - 1))) h9))))))))))) ∧ (¬ (x6 * v1) ≤ 4096 → K (some (.int (-3))) h4)))))))) ∧ (¬ (kI h1 (rf h1 v0 5) (Int32.toNatClampNeg 12)) ≤ 0 → K (some (.int (-2))) h1)))))))))))))) : X G M Q 0 [(0, .ref v0), (1, .int v1)] [] h := by
  refine x_iload_n hM d_Mo_thing_0 rfl 1 rfl ?_
  refine x_iconst (v := 2) hM d_Mo_thing_1 (by decide) ?_
  refine x_iconst (v := 4) hM d_Mo_thing_2 (by decide) ?_
  refine x_callS hG hM (r' := r_Mo_isIn) [.int v1, .int 2, .int 4] rfl yk_Mo_isIn ⟨Nat.le_of_ble_eq_true rfl, Nat.le_of_ble_eq_true rfl⟩ w_1017 w_1018 rfl rfl (Nat.le_of_ble_eq_true rfl) d_Mo_thing_3 (sem_mono F ?_)
  intro u2 h1 F
  obtain ⟨x3, rfl, F⟩ := F
  refine x_if_eq (tgt := 33) hM d_Mo_thing_6 (by decide) (fun q33 => ?_) (fun q33 => ?_)
  · replace F := F.1 q33
    refine x_bipush (v := (-2)) hM d_Mo_thing_33 (by decide) ?_
    exact x_ireturn hM d_Mo_thing_35 rfl F
  · replace F := F.2 q33
    refine x_aload_n hM d_Mo_thing_9 rfl 0 rfl ?_
    obtain ⟨c32, F⟩ := F
    refine x_geti hG hM ck_Mo 3 (Nat.le_of_ble_eq_true rfl) rfl rfl w_900 rfl d_Mo_thing_10 c32 ?_
    refine x_if_gt (tgt := 33) hM d_Mo_thing_13 (by decide) (fun q31 => ?_) (fun q31 => ?_)
    · replace F := F.1 q31
      refine x_bipush (v := (-2)) hM d_Mo_thing_33 (by decide) ?_
      exact x_ireturn hM d_Mo_thing_35 rfl F
    · replace F := F.2 q31
      refine x_aload_n hM d_Mo_thing_16 rfl 0 rfl ?_
      obtain ⟨c30, F⟩ := F
      refine x_geti hG hM ck_Mo 9 (Nat.le_of_ble_eq_true rfl) rfl rfl w_906 rfl d_Mo_thing_17 c30 ?_
      refine x_if_gt (tgt := 33) hM d_Mo_thing_20 (by decide) (fun q29 => ?_) (fun q29 => ?_)
      · replace F := F.1 q29
        refine x_bipush (v := (-2)) hM d_Mo_thing_33 (by decide) ?_
        exact x_ireturn hM d_Mo_thing_35 rfl F
      · replace F := F.2 q29
        refine x_aload_n hM d_Mo_thing_23 rfl 0 rfl ?_
        obtain ⟨c27, F⟩ := F
        obtain ⟨c28, F⟩ := F
        refine x_getr hG hM ck_Mo 5 (Nat.le_of_ble_eq_true rfl) rfl rfl w_902 rfl d_Mo_thing_24 c27 c28 ?_
        refine x_bipush (v := 12) hM d_Mo_thing_27 (by decide) ?_
        obtain ⟨c25, F⟩ := F
        obtain ⟨c26, F⟩ := F
        refine x_iaload hG hM d_Mo_thing_29 c25 c26 ?_
        refine x_if_le (tgt := 36) hM d_Mo_thing_30 (by decide) (fun q24 => ?_) (fun q24 => ?_)
        · replace F := F.1 q24
          refine x_aload_n hM d_Mo_thing_36 rfl 0 rfl ?_
          obtain ⟨c23, F⟩ := F
          refine x_geti hG hM ck_Mo 0 (Nat.le_of_ble_eq_true rfl) rfl rfl w_897 rfl d_Mo_thing_37 c23 ?_
          refine x_bipush (v := 8) hM d_Mo_thing_40 (by decide) ?_
          refine x_icmp_eq (tgt := 57) hM d_Mo_thing_42 (by decide) (fun q22 => ?_) (fun q22 => ?_)
          · replace F := F.1 q22
            refine x_bipush (v := (-3)) hM d_Mo_thing_57 (by decide) ?_
            exact x_ireturn hM d_Mo_thing_59 rfl F
          · replace F := F.2 q22
            refine x_aload_n hM d_Mo_thing_45 rfl 0 rfl ?_
            obtain ⟨c21, F⟩ := F
            refine x_callV hG hM (r' := r_Mo_states) (ci := 11) [] rfl rfl (Nat.le_of_ble_eq_true rfl) yk_Mo_states ⟨Nat.le_of_ble_eq_true rfl, Nat.le_of_ble_eq_true rfl⟩ w_1020 w_1022 ws_Mo_states rfl rfl (Nat.le_of_ble_eq_true rfl) d_Mo_thing_46 c21 (sem_mono F ?_)
            intro u5 h4 F
            obtain ⟨x6, rfl, F⟩ := F
            refine x_iload_n hM d_Mo_thing_49 rfl 1 rfl ?_
            refine x_imul hM d_Mo_thing_50 ?_
            refine x_sipush (v := 4096) hM d_Mo_thing_51 (by decide) ?_
            refine x_icmp_le (tgt := 60) hM d_Mo_thing_54 (by decide) (fun q20 => ?_) (fun q20 => ?_)
            · replace F := F.1 q20
              refine x_aload_n hM d_Mo_thing_60 rfl 0 rfl ?_
              obtain ⟨c18, F⟩ := F
              obtain ⟨c19, F⟩ := F
              refine x_getr hG hM ck_Mo 1 (Nat.le_of_ble_eq_true rfl) rfl rfl w_898 rfl d_Mo_thing_61 c18 c19 ?_
              refine x_aload_n hM d_Mo_thing_64 rfl 0 rfl ?_
              obtain ⟨c17, F⟩ := F
              refine x_geti hG hM ck_Mo 0 (Nat.le_of_ble_eq_true rfl) rfl rfl w_897 rfl d_Mo_thing_65 c17 ?_
              refine x_iload_n hM d_Mo_thing_68 rfl 1 rfl ?_
              obtain ⟨c15, F⟩ := F
              obtain ⟨c16, F⟩ := F
              replace F := F _ rfl
              refine x_iastore hG hM d_Mo_thing_69 c15 c16 ?_
              refine x_aload_n hM d_Mo_thing_70 rfl 0 rfl ?_
              refine x_dup hM d_Mo_thing_71 rfl ?_
              obtain ⟨c14, F⟩ := F
              refine x_geti hG hM ck_Mo 0 (Nat.le_of_ble_eq_true rfl) rfl rfl w_897 rfl d_Mo_thing_72 c14 ?_
              refine x_iconst (v := 1) hM d_Mo_thing_75 (by decide) ?_
              refine x_iadd hM d_Mo_thing_76 ?_
              obtain ⟨c13, F⟩ := F
              replace F := F _ rfl
              refine x_puti hG hM ck_Mo 0 (Nat.le_of_ble_eq_true rfl) rfl rfl w_897 rfl d_Mo_thing_77 (Or.inl rfl) c13 ?_
              refine x_aload_n hM d_Mo_thing_80 rfl 0 rfl ?_
              obtain ⟨c12, F⟩ := F
              refine x_callV hG hM (r' := r_Mo_forget) (ci := 11) [] rfl rfl (Nat.le_of_ble_eq_true rfl) yk_Mo_forget ⟨Nat.le_of_ble_eq_true rfl, Nat.le_of_ble_eq_true rfl⟩ w_893 w_895 ws_Mo_forget rfl rfl (Nat.le_of_ble_eq_true rfl) d_Mo_thing_81 c12 (sem_mono F ?_)
              intro u10 h9 F
              obtain ⟨rfl, F⟩ := F
              refine x_aload_n hM d_Mo_thing_84 rfl 0 rfl ?_
              obtain ⟨c11, F⟩ := F
              refine x_geti hG hM ck_Mo 0 (Nat.le_of_ble_eq_true rfl) rfl rfl w_897 rfl d_Mo_thing_85 c11 ?_
              refine x_iconst (v := 1) hM d_Mo_thing_88 (by decide) ?_
              refine x_isub hM d_Mo_thing_89 ?_
              exact x_ireturn hM d_Mo_thing_90 rfl F
            · replace F := F.2 q20
              refine x_bipush (v := (-3)) hM d_Mo_thing_57 (by decide) ?_
              exact x_ireturn hM d_Mo_thing_59 rfl F
        · replace F := F.2 q24
          refine x_bipush (v := (-2)) hM d_Mo_thing_33 (by decide) ?_
          exact x_ireturn hM d_Mo_thing_35 rfl F
set_option maxRecDepth 100000 in
set_option maxHeartbeats 4000000 in
theorem S_Mo_isIn_0 {G : Gc} {M : Mc} {Q : State → Prop} {K : Option Value → Hp → Prop} (hG : gok G) (hM : mok G M r_Mo_isIn Q K) (v0 : Int32) (v1 : Int32) (v2 : Int32) (h : Hp) (F : ∀ z1 : Int32, z1 = (if v0 < v1 then 0 else (if v2 < v0 then 0 else 1)) → (nb z1 ∧ K (some (.int z1)) h)) : X G M Q 0 [(0, .int v0), (1, .int v1), (2, .int v2)] [] h := by
  refine x_iload_n hM d_Mo_isIn_0 rfl 0 rfl ?_
  refine x_iload_n hM d_Mo_isIn_1 rfl 1 rfl ?_
  have JJ : ∀ (z1 : Int32) (ez1 : z1 = (if v0 < v1 then 0 else (if v2 < v0 then 0 else 1))), X G M Q 15 [] [.int z1] h := by
    intro z1 ez1
    replace F := F _ ez1
    exact x_zreturn hM d_Mo_isIn_15 rfl F.1 F.2
  refine x_icmp_lt (tgt := 14) hM d_Mo_isIn_2 (by decide) (fun q2 => ?_) (fun q2 => ?_)
  · refine x_iconst (v := 0) hM d_Mo_isIn_14 (by decide) ?_
    refine x_sub [] rfl ?_
    exact JJ _ (Eq.symm (if_pos q2))
  · refine x_iload_n hM d_Mo_isIn_5 rfl 0 rfl ?_
    refine x_iload_n hM d_Mo_isIn_6 rfl 2 rfl ?_
    refine x_icmp_gt (tgt := 14) hM d_Mo_isIn_7 (by decide) (fun q3 => ?_) (fun q3 => ?_)
    · refine x_iconst (v := 0) hM d_Mo_isIn_14 (by decide) ?_
      refine x_sub [] rfl ?_
      exact JJ _ (Eq.symm (Eq.trans (if_neg q2) (if_pos q3)))
    · refine x_iconst (v := 1) hM d_Mo_isIn_10 (by decide) ?_
      refine x_goto (tgt := 15) hM d_Mo_isIn_11 (by decide) ?_
      refine x_sub [] rfl ?_
      exact JJ _ (Eq.symm (Eq.trans (if_neg q2) (if_neg q3)))
set_option maxRecDepth 100000 in
set_option maxHeartbeats 4000000 in
theorem S_Mo_states_0 {G : Gc} {M : Mc} {Q : State → Prop} {K : Option Value → Hp → Prop} (hG : gok G) (hM : mok G M r_Mo_states Q K) (v0 : Nat) (h : Hp) (F : X G M Q 4 [(0, .ref v0), (1, .int 1), (2, .int 0)] [] h) : X G M Q 0 [(0, .ref v0)] [] h := by
  refine x_iconst (v := 1) hM d_Mo_states_0 (by decide) ?_
  refine x_istore_n (lv2 := [(1, .int 1), (0, .ref v0)]) hM d_Mo_states_1 rfl (Nat.le_of_ble_eq_true rfl) rfl ?_
  refine x_iconst (v := 0) hM d_Mo_states_2 (by decide) ?_
  refine x_istore_n (lv2 := [(2, .int 0), (1, .int 1), (0, .ref v0)]) hM d_Mo_states_3 rfl (Nat.le_of_ble_eq_true rfl) rfl ?_
  refine x_sub [2, 1, 0] rfl ?_
  exact F
set_option maxRecDepth 100000 in
set_option maxHeartbeats 4000000 in
theorem S_Mo_states_4 {G : Gc} {M : Mc} {Q : State → Prop} {K : Option Value → Hp → Prop} (hG : gok G) (hM : mok G M r_Mo_states Q K) (v0 : Nat) (v1 : Int32) (v2 : Int32) (h : Hp) (F : kT h v0 = 12 ∧ (((kI h v0 0) ≤ v2 → K (some (.int v1)) h) ∧ (¬ (kI h v0 0) ≤ v2 → (kT h v0 = 12 ∧ kR h v0 1 = some (rf h v0 1) ∧ (kT h (rf h v0 1) = 50 ∧ vp_in v2 (kN h (rf h v0 1)) ∧ X G M Q 4 [(0, .ref v0), (1, .int (v1 * (kI h (rf h v0 1) (Int32.toNatClampNeg v2)))), (2, .int (v2 + 1))] [] h))))) : X G M Q 4 [(0, .ref v0), (1, .int v1), (2, .int v2)] [] h := by
  refine x_iload_n hM d_Mo_states_4 rfl 2 rfl ?_
  refine x_aload_n hM d_Mo_states_5 rfl 0 rfl ?_
  obtain ⟨c6, F⟩ := F
  refine x_geti hG hM ck_Mo 0 (Nat.le_of_ble_eq_true rfl) rfl rfl w_897 rfl d_Mo_states_6 c6 ?_
  refine x_icmp_ge (tgt := 27) hM d_Mo_states_9 (by decide) (fun q5 => ?_) (fun q5 => ?_)
  · replace F := F.1 q5
    refine x_iload_n hM d_Mo_states_27 rfl 1 rfl ?_
    exact x_ireturn hM d_Mo_states_28 rfl F
  · replace F := F.2 q5
    refine x_iload_n hM d_Mo_states_12 rfl 1 rfl ?_
    refine x_aload_n hM d_Mo_states_13 rfl 0 rfl ?_
    obtain ⟨c3, F⟩ := F
    obtain ⟨c4, F⟩ := F
    refine x_getr hG hM ck_Mo 1 (Nat.le_of_ble_eq_true rfl) rfl rfl w_898 rfl d_Mo_states_14 c3 c4 ?_
    refine x_iload_n hM d_Mo_states_17 rfl 2 rfl ?_
    obtain ⟨c1, F⟩ := F
    obtain ⟨c2, F⟩ := F
    refine x_iaload hG hM d_Mo_states_18 c1 c2 ?_
    refine x_imul hM d_Mo_states_19 ?_
    refine x_istore_n (lv2 := [(1, .int (v1 * (kI h (rf h v0 1) (Int32.toNatClampNeg v2)))), (0, .ref v0), (2, .int v2)]) hM d_Mo_states_20 rfl (Nat.le_of_ble_eq_true rfl) rfl ?_
    refine x_iinc (v := (v2 + 1)) (lv2 := [(2, .int (v2 + 1)), (1, .int (v1 * (kI h (rf h v0 1) (Int32.toNatClampNeg v2)))), (0, .ref v0)]) hM d_Mo_states_21 (j := 2) rfl rfl (Nat.le_of_ble_eq_true rfl) rfl ?_
    refine x_goto (tgt := 4) hM d_Mo_states_24 (by decide) ?_
    refine x_sub [2, 1, 0] rfl ?_
    exact F
set_option maxRecDepth 100000 in
set_option maxHeartbeats 4000000 in
theorem S_Mo_start_0 {G : Gc} {M : Mc} {Q : State → Prop} {K : Option Value → Hp → Prop} (hG : gok G) (hM : mok G M r_Mo_start Q K) (v0 : Nat) (v1 : Int32) (h : Hp) (F : kT h v0 = 12 ∧ sem G r_Mo_isState [.ref v0, .int v1] h (fun u2 h1 => ∃ x3 : Int32, u2 = some (.int x3) ∧ ((x3 = 0 → K (some (.int (-2))) h1) ∧ (¬ x3 = 0 → (kT h1 v0 = 12 ∧ (kT h1 v0 = 12 ∧ (∀ h4 : Hp, h4 = wI h1 v0 2 v1 → (kT h4 v0 = 12 ∧ sem G r_Mo_forget [.ref v0] h4 (fun u6 h5 => u6 = none ∧ K (some (.int (kI h1 v0 2))) h5))))))))) : X G M Q 0 [(0, .ref v0), (1, .int v1)] [] h := by
  refine x_aload_n hM d_Mo_start_0 rfl 0 rfl ?_
  refine x_iload_n hM d_Mo_start_1 rfl 1 rfl ?_
  obtain ⟨c11, F⟩ := F
  refine x_callV hG hM (r' := r_Mo_isState) (ci := 11) [.int v1] rfl rfl (Nat.le_of_ble_eq_true rfl) yk_Mo_isState ⟨Nat.le_of_ble_eq_true rfl, Nat.le_of_ble_eq_true rfl⟩ w_1028 w_1030 ws_Mo_isState rfl rfl (Nat.le_of_ble_eq_true rfl) d_Mo_start_2 c11 (sem_mono F ?_)
  intro u2 h1 F
  obtain ⟨x3, rfl, F⟩ := F
  refine x_if_ne (tgt := 11) hM d_Mo_start_5 (by decide) (fun q10 => ?_) (fun q10 => ?_)
  · replace F := F.2 q10
    refine x_aload_n hM d_Mo_start_11 rfl 0 rfl ?_
    obtain ⟨c9, F⟩ := F
    refine x_geti hG hM ck_Mo 2 (Nat.le_of_ble_eq_true rfl) rfl rfl w_899 rfl d_Mo_start_12 c9 ?_
    refine x_istore_n (lv2 := [(2, .int (kI h1 v0 2)), (0, .ref v0), (1, .int v1)]) hM d_Mo_start_15 rfl (Nat.le_of_ble_eq_true rfl) rfl ?_
    refine x_aload_n hM d_Mo_start_16 rfl 1 rfl ?_
    refine x_iload_n hM d_Mo_start_17 rfl 2 rfl ?_
    obtain ⟨c8, F⟩ := F
    replace F := F _ rfl
    refine x_puti hG hM ck_Mo 2 (Nat.le_of_ble_eq_true rfl) rfl rfl w_899 rfl d_Mo_start_18 (Or.inl rfl) c8 ?_
    refine x_aload_n hM d_Mo_start_21 rfl 1 rfl ?_
    obtain ⟨c7, F⟩ := F
    refine x_callV hG hM (r' := r_Mo_forget) (ci := 11) [] rfl rfl (Nat.le_of_ble_eq_true rfl) yk_Mo_forget ⟨Nat.le_of_ble_eq_true rfl, Nat.le_of_ble_eq_true rfl⟩ w_893 w_895 ws_Mo_forget rfl rfl (Nat.le_of_ble_eq_true rfl) d_Mo_start_22 c7 (sem_mono F ?_)
    intro u6 h5 F
    obtain ⟨rfl, F⟩ := F
    refine x_iload_n hM d_Mo_start_25 rfl 0 rfl ?_
    exact x_ireturn hM d_Mo_start_26 rfl F
  · replace F := F.1 q10
    refine x_bipush (v := (-2)) hM d_Mo_start_8 (by decide) ?_
    exact x_ireturn hM d_Mo_start_10 rfl F
set_option maxRecDepth 100000 in
set_option maxHeartbeats 4000000 in
theorem S_Mo_isState_0 {G : Gc} {M : Mc} {Q : State → Prop} {K : Option Value → Hp → Prop} (hG : gok G) (hM : mok G M r_Mo_isState Q K) (v0 : Nat) (v1 : Int32) (h : Hp) (F : kT h v0 = 12 ∧ sem G r_Mo_states [.ref v0] h (fun u2 h1 => ∃ x3 : Int32, u2 = some (.int x3) ∧ (sem G r_Mo_isIn [.int v1, .int 0, .int (x3 - 1)] h1 (fun u5 h4 => ∃ x6 : Int32, u5 = some (.int x6) ∧ (nb x6 ∧ K (some (.int x6)) h4))))) : X G M Q 0 [(0, .ref v0), (1, .int v1)] [] h := by
  refine x_iload_n hM d_Mo_isState_0 rfl 1 rfl ?_
  refine x_iconst (v := 0) hM d_Mo_isState_1 (by decide) ?_
  refine x_aload_n hM d_Mo_isState_2 rfl 0 rfl ?_
  obtain ⟨c7, F⟩ := F
  refine x_callV hG hM (r' := r_Mo_states) (ci := 11) [] rfl rfl (Nat.le_of_ble_eq_true rfl) yk_Mo_states ⟨Nat.le_of_ble_eq_true rfl, Nat.le_of_ble_eq_true rfl⟩ w_1020 w_1022 ws_Mo_states rfl rfl (Nat.le_of_ble_eq_true rfl) d_Mo_isState_3 c7 (sem_mono F ?_)
  intro u2 h1 F
  obtain ⟨x3, rfl, F⟩ := F
  refine x_iconst (v := 1) hM d_Mo_isState_6 (by decide) ?_
  refine x_isub hM d_Mo_isState_7 ?_
  refine x_callS hG hM (r' := r_Mo_isIn) [.int v1, .int 0, .int (x3 - 1)] rfl yk_Mo_isIn ⟨Nat.le_of_ble_eq_true rfl, Nat.le_of_ble_eq_true rfl⟩ w_1017 w_1018 rfl rfl (Nat.le_of_ble_eq_true rfl) d_Mo_isState_8 (sem_mono F ?_)
  intro u5 h4 F
  obtain ⟨x6, rfl, F⟩ := F
  exact x_zreturn hM d_Mo_isState_11 rfl F.1 F.2
set_option maxRecDepth 100000 in
set_option maxHeartbeats 4000000 in
theorem S_Mo_act_0 {G : Gc} {M : Mc} {Q : State → Prop} {K : Option Value → Hp → Prop} (hG : gok G) (hM : mok G M r_Mo_act Q K) (v0 : Nat) (h : Hp) (F : kT h v0 = 12 ∧ (((kI h v0 3) = 12 → K (some (.int (-3))) h) ∧ (¬ (kI h v0 3) = 12 → (kT h v0 = 12 ∧ kR h v0 4 = some (rf h v0 4) ∧ (kT h v0 = 12 ∧ (kT h (rf h v0 4) = 50 ∧ vp_in (kI h v0 3) (kN h (rf h v0 4)) ∧ (∀ h1 : Hp, h1 = wI h (rf h v0 4) (Int32.toNatClampNeg (kI h v0 3)) 1 → (kT h1 v0 = 12 ∧ kR h1 v0 5 = some (rf h1 v0 5) ∧ (kT h1 v0 = 12 ∧ (kT h1 (rf h1 v0 5) = 50 ∧ vp_in (kI h1 v0 3) (kN h1 (rf h1 v0 5)) ∧ (∀ h2 : Hp, h2 = wI h1 (rf h1 v0 5) (Int32.toNatClampNeg (kI h1 v0 3)) 0 → (kT h2 v0 = 12 ∧ kR h2 v0 7 = some (rf h2 v0 7) ∧ (kT h2 v0 = 12 ∧ (kT h2 (rf h2 v0 7) = 50 ∧ vp_in (3 * (kI h2 v0 3)) (kN h2 (rf h2 v0 7)) ∧ (∀ h3 : Hp, h3 = wI h2 (rf h2 v0 7) (Int32.toNatClampNeg (3 * (kI h2 v0 3))) 0 → (kT h3 v0 = 12 ∧ (kT h3 v0 = 12 ∧ (∀ h4 : Hp, h4 = wI h3 v0 3 ((kI h3 v0 3) + 1) → (kT h4 v0 = 12 ∧ sem G r_Mo_forget [.ref v0] h4 (fun u6 h5 => u6 = none ∧ (kT h5 v0 = 12 ∧ K (some (.int ((kI h5 v0 3) - 1))) h5))))))))))))))))))))) : X G M Q 0 [(0, .ref v0)] [] h := by
  refine x_aload_n hM d_Mo_act_0 rfl 0 rfl ?_
  obtain ⟨c27, F⟩ := F
  refine x_geti hG hM ck_Mo 3 (Nat.le_of_ble_eq_true rfl) rfl rfl w_900 rfl d_Mo_act_1 c27 ?_
  refine x_bipush (v := 12) hM d_Mo_act_4 (by decide) ?_
  refine x_icmp_ne (tgt := 12) hM d_Mo_act_6 (by decide) (fun q26 => ?_) (fun q26 => ?_)
  · replace F := F.2 q26
    refine x_aload_n hM d_Mo_act_12 rfl 0 rfl ?_
    obtain ⟨c24, F⟩ := F
    obtain ⟨c25, F⟩ := F
    refine x_getr hG hM ck_Mo 4 (Nat.le_of_ble_eq_true rfl) rfl rfl w_901 rfl d_Mo_act_13 c24 c25 ?_
    refine x_aload_n hM d_Mo_act_16 rfl 0 rfl ?_
    obtain ⟨c23, F⟩ := F
    refine x_geti hG hM ck_Mo 3 (Nat.le_of_ble_eq_true rfl) rfl rfl w_900 rfl d_Mo_act_17 c23 ?_
    refine x_iconst (v := 1) hM d_Mo_act_20 (by decide) ?_
    obtain ⟨c21, F⟩ := F
    obtain ⟨c22, F⟩ := F
    replace F := F _ rfl
    refine x_iastore hG hM d_Mo_act_21 c21 c22 ?_
    refine x_aload_n hM d_Mo_act_22 rfl 0 rfl ?_
    obtain ⟨c19, F⟩ := F
    obtain ⟨c20, F⟩ := F
    refine x_getr hG hM ck_Mo 5 (Nat.le_of_ble_eq_true rfl) rfl rfl w_902 rfl d_Mo_act_23 c19 c20 ?_
    refine x_aload_n hM d_Mo_act_26 rfl 0 rfl ?_
    obtain ⟨c18, F⟩ := F
    refine x_geti hG hM ck_Mo 3 (Nat.le_of_ble_eq_true rfl) rfl rfl w_900 rfl d_Mo_act_27 c18 ?_
    refine x_iconst (v := 0) hM d_Mo_act_30 (by decide) ?_
    obtain ⟨c16, F⟩ := F
    obtain ⟨c17, F⟩ := F
    replace F := F _ rfl
    refine x_iastore hG hM d_Mo_act_31 c16 c17 ?_
    refine x_aload_n hM d_Mo_act_32 rfl 0 rfl ?_
    obtain ⟨c14, F⟩ := F
    obtain ⟨c15, F⟩ := F
    refine x_getr hG hM ck_Mo 7 (Nat.le_of_ble_eq_true rfl) rfl rfl w_904 rfl d_Mo_act_33 c14 c15 ?_
    refine x_iconst (v := 3) hM d_Mo_act_36 (by decide) ?_
    refine x_aload_n hM d_Mo_act_37 rfl 0 rfl ?_
    obtain ⟨c13, F⟩ := F
    refine x_geti hG hM ck_Mo 3 (Nat.le_of_ble_eq_true rfl) rfl rfl w_900 rfl d_Mo_act_38 c13 ?_
    refine x_imul hM d_Mo_act_41 ?_
    refine x_iconst (v := 0) hM d_Mo_act_42 (by decide) ?_
    obtain ⟨c11, F⟩ := F
    obtain ⟨c12, F⟩ := F
    replace F := F _ rfl
    refine x_iastore hG hM d_Mo_act_43 c11 c12 ?_
    refine x_aload_n hM d_Mo_act_44 rfl 0 rfl ?_
    refine x_dup hM d_Mo_act_45 rfl ?_
    obtain ⟨c10, F⟩ := F
    refine x_geti hG hM ck_Mo 3 (Nat.le_of_ble_eq_true rfl) rfl rfl w_900 rfl d_Mo_act_46 c10 ?_
    refine x_iconst (v := 1) hM d_Mo_act_49 (by decide) ?_
    refine x_iadd hM d_Mo_act_50 ?_
    obtain ⟨c9, F⟩ := F
    replace F := F _ rfl
    refine x_puti hG hM ck_Mo 3 (Nat.le_of_ble_eq_true rfl) rfl rfl w_900 rfl d_Mo_act_51 (Or.inl rfl) c9 ?_
    refine x_aload_n hM d_Mo_act_54 rfl 0 rfl ?_
    obtain ⟨c8, F⟩ := F
    refine x_callV hG hM (r' := r_Mo_forget) (ci := 11) [] rfl rfl (Nat.le_of_ble_eq_true rfl) yk_Mo_forget ⟨Nat.le_of_ble_eq_true rfl, Nat.le_of_ble_eq_true rfl⟩ w_893 w_895 ws_Mo_forget rfl rfl (Nat.le_of_ble_eq_true rfl) d_Mo_act_55 c8 (sem_mono F ?_)
    intro u6 h5 F
    obtain ⟨rfl, F⟩ := F
    refine x_aload_n hM d_Mo_act_58 rfl 0 rfl ?_
    obtain ⟨c7, F⟩ := F
    refine x_geti hG hM ck_Mo 3 (Nat.le_of_ble_eq_true rfl) rfl rfl w_900 rfl d_Mo_act_59 c7 ?_
    refine x_iconst (v := 1) hM d_Mo_act_62 (by decide) ?_
    refine x_isub hM d_Mo_act_63 ?_
    exact x_ireturn hM d_Mo_act_64 rfl F
  · replace F := F.1 q26
    refine x_bipush (v := (-3)) hM d_Mo_act_9 (by decide) ?_
    exact x_ireturn hM d_Mo_act_11 rfl F
set_option maxRecDepth 100000 in
set_option maxHeartbeats 4000000 in
theorem S_Mo_outcome_0 {G : Gc} {M : Mc} {Q : State → Prop} {K : Option Value → Hp → Prop} (hG : gok G) (hM : mok G M r_Mo_outcome Q K) (v0 : Nat) (v1 : Int32) (h : Hp) (F : kT h v0 = 12 ∧ sem G r_Mo_isAct [.ref v0, .int v1] h (fun u2 h1 => ∃ x3 : Int32, u2 = some (.int x3) ∧ ((x3 = 0 → K (some (.int (-2))) h1) ∧ (¬ x3 = 0 → (kT h1 v0 = 12 ∧ kR h1 v0 4 = some (rf h1 v0 4) ∧ (kT h1 (rf h1 v0 4) = 50 ∧ vp_in v1 (kN h1 (rf h1 v0 4)) ∧ (((kI h1 (rf h1 v0 4) (Int32.toNatClampNeg v1)) = 3 → K (some (.int (-3))) h1) ∧ (¬ (kI h1 (rf h1 v0 4) (Int32.toNatClampNeg v1)) = 3 → (kT h1 v0 = 12 ∧ kR h1 v0 7 = some (rf h1 v0 7) ∧ (kT h1 v0 = 12 ∧ kR h1 v0 4 = some (rf h1 v0 4) ∧ (kT h1 (rf h1 v0 4) = 50 ∧ vp_in v1 (kN h1 (rf h1 v0 4)) ∧ (kT h1 (rf h1 v0 7) = 50 ∧ vp_in ((3 * v1) + (kI h1 (rf h1 v0 4) (Int32.toNatClampNeg v1))) (kN h1 (rf h1 v0 7)) ∧ (∀ h4 : Hp, h4 = wI h1 (rf h1 v0 7) (Int32.toNatClampNeg ((3 * v1) + (kI h1 (rf h1 v0 4) (Int32.toNatClampNeg v1)))) 0 → (kT h4 v0 = 12 ∧ kR h4 v0 4 = some (rf h4 v0 4) ∧ (kT h4 (rf h4 v0 4) = 50 ∧ vp_in v1 (kN h4 (rf h4 v0 4)) ∧ (kT h4 (rf h4 v0 4) = 50 ∧ vp_in v1 (kN h4 (rf h4 v0 4)) ∧ (∀ h5 : Hp, h5 = wI h4 (rf h4 v0 4) (Int32.toNatClampNeg v1) ((kI h4 (rf h4 v0 4) (Int32.toNatClampNeg v1)) + 1) → (kT h5 v0 = 12 ∧ sem G r_Mo_forget [.ref v0] h5 (fun u7 h6 => u7 = none ∧ (kT h6 v0 = 12 ∧ kR h6 v0 4 = some (rf h6 v0 4) ∧ (kT h6 (rf h6 v0 4) = 50 ∧ vp_in v1 (kN h6 (rf h6 v0 4)) ∧ K (some (.int ((kI h6 (rf h6 v0 4) (Int32.toNatClampNeg v1)) - 1))) h6))))))))))))))))))))) : X G M Q 0 [(0, .ref v0), (1, .int v1)] [] h := by
  refine x_aload_n hM d_Mo_outcome_0 rfl 0 rfl ?_
  refine x_iload_n hM d_Mo_outcome_1 rfl 1 rfl ?_
  obtain ⟨c33, F⟩ := F
  refine x_callV hG hM (r' := r_Mo_isAct) (ci := 11) [.int v1] rfl rfl (Nat.le_of_ble_eq_true rfl) yk_Mo_isAct ⟨Nat.le_of_ble_eq_true rfl, Nat.le_of_ble_eq_true rfl⟩ w_1040 w_1042 ws_Mo_isAct rfl rfl (Nat.le_of_ble_eq_true rfl) d_Mo_outcome_2 c33 (sem_mono F ?_)
  intro u2 h1 F
  obtain ⟨x3, rfl, F⟩ := F
  refine x_if_ne (tgt := 11) hM d_Mo_outcome_5 (by decide) (fun q32 => ?_) (fun q32 => ?_)
  · replace F := F.2 q32
    refine x_aload_n hM d_Mo_outcome_11 rfl 0 rfl ?_
    obtain ⟨c30, F⟩ := F
    obtain ⟨c31, F⟩ := F
    refine x_getr hG hM ck_Mo 4 (Nat.le_of_ble_eq_true rfl) rfl rfl w_901 rfl d_Mo_outcome_12 c30 c31 ?_
    refine x_iload_n hM d_Mo_outcome_15 rfl 1 rfl ?_
    obtain ⟨c28, F⟩ := F
    obtain ⟨c29, F⟩ := F
    refine x_iaload hG hM d_Mo_outcome_16 c28 c29 ?_
    refine x_iconst (v := 3) hM d_Mo_outcome_17 (by decide) ?_
    refine x_icmp_ne (tgt := 24) hM d_Mo_outcome_18 (by decide) (fun q27 => ?_) (fun q27 => ?_)
    · replace F := F.2 q27
      refine x_aload_n hM d_Mo_outcome_24 rfl 0 rfl ?_
      obtain ⟨c25, F⟩ := F
      obtain ⟨c26, F⟩ := F
      refine x_getr hG hM ck_Mo 7 (Nat.le_of_ble_eq_true rfl) rfl rfl w_904 rfl d_Mo_outcome_25 c25 c26 ?_
      refine x_iconst (v := 3) hM d_Mo_outcome_28 (by decide) ?_
      refine x_iload_n hM d_Mo_outcome_29 rfl 1 rfl ?_
      refine x_imul hM d_Mo_outcome_30 ?_
      refine x_aload_n hM d_Mo_outcome_31 rfl 0 rfl ?_
      obtain ⟨c23, F⟩ := F
      obtain ⟨c24, F⟩ := F
      refine x_getr hG hM ck_Mo 4 (Nat.le_of_ble_eq_true rfl) rfl rfl w_901 rfl d_Mo_outcome_32 c23 c24 ?_
      refine x_iload_n hM d_Mo_outcome_35 rfl 1 rfl ?_
      obtain ⟨c21, F⟩ := F
      obtain ⟨c22, F⟩ := F
      refine x_iaload hG hM d_Mo_outcome_36 c21 c22 ?_
      refine x_iadd hM d_Mo_outcome_37 ?_
      refine x_iconst (v := 0) hM d_Mo_outcome_38 (by decide) ?_
      obtain ⟨c19, F⟩ := F
      obtain ⟨c20, F⟩ := F
      replace F := F _ rfl
      refine x_iastore hG hM d_Mo_outcome_39 c19 c20 ?_
      refine x_aload_n hM d_Mo_outcome_40 rfl 0 rfl ?_
      obtain ⟨c17, F⟩ := F
      obtain ⟨c18, F⟩ := F
      refine x_getr hG hM ck_Mo 4 (Nat.le_of_ble_eq_true rfl) rfl rfl w_901 rfl d_Mo_outcome_41 c17 c18 ?_
      refine x_iload_n hM d_Mo_outcome_44 rfl 1 rfl ?_
      refine x_dup2 hM d_Mo_outcome_45 rfl rfl ?_
      obtain ⟨c15, F⟩ := F
      obtain ⟨c16, F⟩ := F
      refine x_iaload hG hM d_Mo_outcome_46 c15 c16 ?_
      refine x_iconst (v := 1) hM d_Mo_outcome_47 (by decide) ?_
      refine x_iadd hM d_Mo_outcome_48 ?_
      obtain ⟨c13, F⟩ := F
      obtain ⟨c14, F⟩ := F
      replace F := F _ rfl
      refine x_iastore hG hM d_Mo_outcome_49 c13 c14 ?_
      refine x_aload_n hM d_Mo_outcome_50 rfl 0 rfl ?_
      obtain ⟨c12, F⟩ := F
      refine x_callV hG hM (r' := r_Mo_forget) (ci := 11) [] rfl rfl (Nat.le_of_ble_eq_true rfl) yk_Mo_forget ⟨Nat.le_of_ble_eq_true rfl, Nat.le_of_ble_eq_true rfl⟩ w_893 w_895 ws_Mo_forget rfl rfl (Nat.le_of_ble_eq_true rfl) d_Mo_outcome_51 c12 (sem_mono F ?_)
      intro u7 h6 F
      obtain ⟨rfl, F⟩ := F
      refine x_aload_n hM d_Mo_outcome_54 rfl 0 rfl ?_
      obtain ⟨c10, F⟩ := F
      obtain ⟨c11, F⟩ := F
      refine x_getr hG hM ck_Mo 4 (Nat.le_of_ble_eq_true rfl) rfl rfl w_901 rfl d_Mo_outcome_55 c10 c11 ?_
      refine x_iload_n hM d_Mo_outcome_58 rfl 1 rfl ?_
      obtain ⟨c8, F⟩ := F
      obtain ⟨c9, F⟩ := F
      refine x_iaload hG hM d_Mo_outcome_59 c8 c9 ?_
      refine x_iconst (v := 1) hM d_Mo_outcome_60 (by decide) ?_
      refine x_isub hM d_Mo_outcome_61 ?_
      exact x_ireturn hM d_Mo_outcome_62 rfl F
    · replace F := F.1 q27
      refine x_bipush (v := (-3)) hM d_Mo_outcome_21 (by decide) ?_
      exact x_ireturn hM d_Mo_outcome_23 rfl F
  · replace F := F.1 q32
    refine x_bipush (v := (-2)) hM d_Mo_outcome_8 (by decide) ?_
    exact x_ireturn hM d_Mo_outcome_10 rfl F
set_option maxRecDepth 100000 in
set_option maxHeartbeats 4000000 in
theorem S_Mo_isAct_0 {G : Gc} {M : Mc} {Q : State → Prop} {K : Option Value → Hp → Prop} (hG : gok G) (hM : mok G M r_Mo_isAct Q K) (v0 : Nat) (v1 : Int32) (h : Hp) (F : kT h v0 = 12 ∧ (sem G r_Mo_isIn [.int v1, .int 0, .int ((kI h v0 3) - 1)] h (fun u2 h1 => ∃ x3 : Int32, u2 = some (.int x3) ∧ (nb x3 ∧ K (some (.int x3)) h1)))) : X G M Q 0 [(0, .ref v0), (1, .int v1)] [] h := by
  refine x_iload_n hM d_Mo_isAct_0 rfl 1 rfl ?_
  refine x_iconst (v := 0) hM d_Mo_isAct_1 (by decide) ?_
  refine x_aload_n hM d_Mo_isAct_2 rfl 0 rfl ?_
  obtain ⟨c4, F⟩ := F
  refine x_geti hG hM ck_Mo 3 (Nat.le_of_ble_eq_true rfl) rfl rfl w_900 rfl d_Mo_isAct_3 c4 ?_
  refine x_iconst (v := 1) hM d_Mo_isAct_6 (by decide) ?_
  refine x_isub hM d_Mo_isAct_7 ?_
  refine x_callS hG hM (r' := r_Mo_isIn) [.int v1, .int 0, .int ((kI h v0 3) - 1)] rfl yk_Mo_isIn ⟨Nat.le_of_ble_eq_true rfl, Nat.le_of_ble_eq_true rfl⟩ w_1017 w_1018 rfl rfl (Nat.le_of_ble_eq_true rfl) d_Mo_isAct_8 (sem_mono F ?_)
  intro u2 h1 F
  obtain ⟨x3, rfl, F⟩ := F
  exact x_zreturn hM d_Mo_isAct_11 rfl F.1 F.2
set_option maxRecDepth 100000 in
set_option maxHeartbeats 4000000 in
theorem S_Mo_when_0 {G : Gc} {M : Mc} {Q : State → Prop} {K : Option Value → Hp → Prop} (hG : gok G) (hM : mok G M r_Mo_when Q K) (v0 : Nat) (v1 : Int32) (v2 : Int32) (v3 : Int32) (v4 : Int32) (h : Hp) (F : kT h v0 = 12 ∧ sem G r_Mo_isAct [.ref v0, .int v1] h (fun u2 h1 => ∃ x3 : Int32, u2 = some (.int x3) ∧ ((x3 = 0 → K (some (.int (-2))) h1) ∧ (¬ x3 = 0 → (kT h1 v0 = 12 ∧ sem G r_Mo_isCondition [.ref v0, .int v2, .int v3, .int v4] h1 (fun u5 h4 => ∃ x6 : Int32, u5 = some (.int x6) ∧ ((x6 = 0 → K (some (.int (-2))) h4) ∧ (¬ x6 = 0 → (kT h4 v0 = 12 ∧ sem G r_Mo_more [.ref v0, .int v1, .int v2, .int v3, .int v4] h4 (fun u8 h7 => ∃ x9 : Int32, u8 = some (.int x9) ∧ K (some (.int x9)) h7)))))))))) : X G M Q 0 [(0, .ref v0), (1, .int v1), (2, .int v2), (3, .int v3), (4, .int v4)] [] h := by
  refine x_aload_n hM d_Mo_when_0 rfl 0 rfl ?_
  refine x_iload_n hM d_Mo_when_1 rfl 1 rfl ?_
  obtain ⟨c14, F⟩ := F
  refine x_callV hG hM (r' := r_Mo_isAct) (ci := 11) [.int v1] rfl rfl (Nat.le_of_ble_eq_true rfl) yk_Mo_isAct ⟨Nat.le_of_ble_eq_true rfl, Nat.le_of_ble_eq_true rfl⟩ w_1040 w_1042 ws_Mo_isAct rfl rfl (Nat.le_of_ble_eq_true rfl) d_Mo_when_2 c14 (sem_mono F ?_)
  intro u2 h1 F
  obtain ⟨x3, rfl, F⟩ := F
  refine x_if_eq (tgt := 31) hM d_Mo_when_5 (by decide) (fun q13 => ?_) (fun q13 => ?_)
  · replace F := F.1 q13
    refine x_bipush (v := (-2)) hM d_Mo_when_31 (by decide) ?_
    exact x_ireturn hM d_Mo_when_33 rfl F
  · replace F := F.2 q13
    refine x_aload_n hM d_Mo_when_8 rfl 0 rfl ?_
    refine x_iload_n hM d_Mo_when_9 rfl 2 rfl ?_
    refine x_iload_n hM d_Mo_when_10 rfl 3 rfl ?_
    refine x_iload hM d_Mo_when_11 4 rfl ?_
    obtain ⟨c12, F⟩ := F
    refine x_callV hG hM (r' := r_Mo_isCondition) (ci := 11) [.int v2, .int v3, .int v4] rfl rfl (Nat.le_of_ble_eq_true rfl) yk_Mo_isCondition ⟨Nat.le_of_ble_eq_true rfl, Nat.le_of_ble_eq_true rfl⟩ w_1048 w_1050 ws_Mo_isCondition rfl rfl (Nat.le_of_ble_eq_true rfl) d_Mo_when_13 c12 (sem_mono F ?_)
    intro u5 h4 F
    obtain ⟨x6, rfl, F⟩ := F
    refine x_if_eq (tgt := 31) hM d_Mo_when_16 (by decide) (fun q11 => ?_) (fun q11 => ?_)
    · replace F := F.1 q11
      refine x_bipush (v := (-2)) hM d_Mo_when_31 (by decide) ?_
      exact x_ireturn hM d_Mo_when_33 rfl F
    · replace F := F.2 q11
      refine x_aload_n hM d_Mo_when_19 rfl 0 rfl ?_
      refine x_iload_n hM d_Mo_when_20 rfl 1 rfl ?_
      refine x_iload_n hM d_Mo_when_21 rfl 2 rfl ?_
      refine x_iload_n hM d_Mo_when_22 rfl 3 rfl ?_
      refine x_iload hM d_Mo_when_23 4 rfl ?_
      obtain ⟨c10, F⟩ := F
      refine x_callV hG hM (r' := r_Mo_more) (ci := 11) [.int v1, .int v2, .int v3, .int v4] rfl rfl (Nat.le_of_ble_eq_true rfl) yk_Mo_more ⟨Nat.le_of_ble_eq_true rfl, Nat.le_of_ble_eq_true rfl⟩ w_1056 w_1058 ws_Mo_more rfl rfl (Nat.le_of_ble_eq_true rfl) d_Mo_when_25 c10 (sem_mono F ?_)
      intro u8 h7 F
      obtain ⟨x9, rfl, F⟩ := F
      refine x_goto (tgt := 33) hM d_Mo_when_28 (by decide) ?_
      exact x_ireturn hM d_Mo_when_33 rfl F
set_option maxRecDepth 100000 in
set_option maxHeartbeats 4000000 in
theorem S_Mo_isCondition_0 {G : Gc} {M : Mc} {Q : State → Prop} {K : Option Value → Hp → Prop} (hG : gok G) (hM : mok G M r_Mo_isCondition Q K) (v0 : Nat) (v1 : Int32) (v2 : Int32) (v3 : Int32) (h : Hp) (F : kT h v0 = 12 ∧ sem G r_Mo_isThing [.ref v0, .int v1] h (fun u2 h1 => ∃ x3 : Int32, u2 = some (.int x3) ∧ ((x3 = 0 → K (some (.int 0)) h1) ∧ (¬ x3 = 0 → (sem G r_Mo_isIn [.int v2, .int 0, .int 3] h1 (fun u5 h4 => ∃ x6 : Int32, u5 = some (.int x6) ∧ ((x6 = 0 → K (some (.int 0)) h4) ∧ (¬ x6 = 0 → ((v2 = 2 → (kT h4 v0 = 12 ∧ sem G r_Mo_isThing [.ref v0, .int v3] h4 (fun u13 h12 => ∃ x14 : Int32, u13 = some (.int x14) ∧ (∀ z15 : Int32, z15 = (if x14 = 0 then 0 else 1) → (nb z15 ∧ K (some (.int z15)) h12))))) ∧ (¬ v2 = 2 → (sem G r_Mo_isIn [.int v3, .int 0, .int 3] h4 (fun u8 h7 => ∃ x9 : Int32, u8 = some (.int x9) ∧ (∀ z10 : Int32, z10 = (if x9 = 0 then 0 else 1) → (nb z10 ∧ K (some (.int z10)) h7)))))))))))))) : X G M Q 0 [(0, .ref v0), (1, .int v1), (2, .int v2), (3, .int v3)] [] h := by
  refine x_aload_n hM d_Mo_isCondition_0 rfl 0 rfl ?_
  refine x_iload_n hM d_Mo_isCondition_1 rfl 1 rfl ?_
  obtain ⟨c21, F⟩ := F
  refine x_callV hG hM (r' := r_Mo_isThing) (ci := 11) [.int v1] rfl rfl (Nat.le_of_ble_eq_true rfl) yk_Mo_isThing ⟨Nat.le_of_ble_eq_true rfl, Nat.le_of_ble_eq_true rfl⟩ w_1052 w_1054 ws_Mo_isThing rfl rfl (Nat.le_of_ble_eq_true rfl) d_Mo_isCondition_2 c21 (sem_mono F ?_)
  intro u2 h1 F
  obtain ⟨x3, rfl, F⟩ := F
  refine x_if_eq (tgt := 46) hM d_Mo_isCondition_5 (by decide) (fun q20 => ?_) (fun q20 => ?_)
  · replace F := F.1 q20
    refine x_iconst (v := 0) hM d_Mo_isCondition_46 (by decide) ?_
    exact x_zreturn hM d_Mo_isCondition_47 rfl (Or.inl rfl) F
  · replace F := F.2 q20
    refine x_iload_n hM d_Mo_isCondition_8 rfl 2 rfl ?_
    refine x_iconst (v := 0) hM d_Mo_isCondition_9 (by decide) ?_
    refine x_iconst (v := 3) hM d_Mo_isCondition_10 (by decide) ?_
    refine x_callS hG hM (r' := r_Mo_isIn) [.int v2, .int 0, .int 3] rfl yk_Mo_isIn ⟨Nat.le_of_ble_eq_true rfl, Nat.le_of_ble_eq_true rfl⟩ w_1017 w_1018 rfl rfl (Nat.le_of_ble_eq_true rfl) d_Mo_isCondition_11 (sem_mono F ?_)
    intro u5 h4 F
    obtain ⟨x6, rfl, F⟩ := F
    refine x_if_eq (tgt := 46) hM d_Mo_isCondition_14 (by decide) (fun q19 => ?_) (fun q19 => ?_)
    · replace F := F.1 q19
      refine x_iconst (v := 0) hM d_Mo_isCondition_46 (by decide) ?_
      exact x_zreturn hM d_Mo_isCondition_47 rfl (Or.inl rfl) F
    · replace F := F.2 q19
      refine x_iload_n hM d_Mo_isCondition_17 rfl 2 rfl ?_
      refine x_iconst (v := 2) hM d_Mo_isCondition_18 (by decide) ?_
      refine x_icmp_ne (tgt := 33) hM d_Mo_isCondition_19 (by decide) (fun q18 => ?_) (fun q18 => ?_)
      · replace F := F.2 q18
        refine x_iload_n hM d_Mo_isCondition_33 rfl 3 rfl ?_
        refine x_iconst (v := 0) hM d_Mo_isCondition_34 (by decide) ?_
        refine x_iconst (v := 3) hM d_Mo_isCondition_35 (by decide) ?_
        refine x_callS hG hM (r' := r_Mo_isIn) [.int v3, .int 0, .int 3] rfl yk_Mo_isIn ⟨Nat.le_of_ble_eq_true rfl, Nat.le_of_ble_eq_true rfl⟩ w_1017 w_1018 rfl rfl (Nat.le_of_ble_eq_true rfl) d_Mo_isCondition_36 (sem_mono F ?_)
        intro u8 h7 F
        obtain ⟨x9, rfl, F⟩ := F
        have JJ : ∀ (z10 : Int32) (ez10 : z10 = (if x9 = 0 then 0 else 1)), X G M Q 47 [] [.int z10] h7 := by
          intro z10 ez10
          replace F := F _ ez10
          exact x_zreturn hM d_Mo_isCondition_47 rfl F.1 F.2
        refine x_if_eq (tgt := 46) hM d_Mo_isCondition_39 (by decide) (fun q11 => ?_) (fun q11 => ?_)
        · refine x_iconst (v := 0) hM d_Mo_isCondition_46 (by decide) ?_
          refine x_sub [] rfl ?_
          exact JJ _ (Eq.symm (if_pos q11))
        · refine x_iconst (v := 1) hM d_Mo_isCondition_42 (by decide) ?_
          refine x_goto (tgt := 47) hM d_Mo_isCondition_43 (by decide) ?_
          refine x_sub [] rfl ?_
          exact JJ _ (Eq.symm (if_neg q11))
      · replace F := F.1 q18
        refine x_aload_n hM d_Mo_isCondition_22 rfl 0 rfl ?_
        refine x_iload_n hM d_Mo_isCondition_23 rfl 3 rfl ?_
        obtain ⟨c17, F⟩ := F
        refine x_callV hG hM (r' := r_Mo_isThing) (ci := 11) [.int v3] rfl rfl (Nat.le_of_ble_eq_true rfl) yk_Mo_isThing ⟨Nat.le_of_ble_eq_true rfl, Nat.le_of_ble_eq_true rfl⟩ w_1052 w_1054 ws_Mo_isThing rfl rfl (Nat.le_of_ble_eq_true rfl) d_Mo_isCondition_24 c17 (sem_mono F ?_)
        intro u13 h12 F
        obtain ⟨x14, rfl, F⟩ := F
        have JJ : ∀ (z15 : Int32) (ez15 : z15 = (if x14 = 0 then 0 else 1)), X G M Q 47 [] [.int z15] h12 := by
          intro z15 ez15
          replace F := F _ ez15
          exact x_zreturn hM d_Mo_isCondition_47 rfl F.1 F.2
        refine x_if_eq (tgt := 46) hM d_Mo_isCondition_27 (by decide) (fun q16 => ?_) (fun q16 => ?_)
        · refine x_iconst (v := 0) hM d_Mo_isCondition_46 (by decide) ?_
          refine x_sub [] rfl ?_
          exact JJ _ (Eq.symm (if_pos q16))
        · refine x_goto (tgt := 42) hM d_Mo_isCondition_30 (by decide) ?_
          refine x_iconst (v := 1) hM d_Mo_isCondition_42 (by decide) ?_
          refine x_goto (tgt := 47) hM d_Mo_isCondition_43 (by decide) ?_
          refine x_sub [] rfl ?_
          exact JJ _ (Eq.symm (if_neg q16))
set_option maxRecDepth 100000 in
set_option maxHeartbeats 4000000 in
theorem S_Mo_isThing_0 {G : Gc} {M : Mc} {Q : State → Prop} {K : Option Value → Hp → Prop} (hG : gok G) (hM : mok G M r_Mo_isThing Q K) (v0 : Nat) (v1 : Int32) (h : Hp) (F : kT h v0 = 12 ∧ (sem G r_Mo_isIn [.int v1, .int 0, .int ((kI h v0 0) - 1)] h (fun u2 h1 => ∃ x3 : Int32, u2 = some (.int x3) ∧ (nb x3 ∧ K (some (.int x3)) h1)))) : X G M Q 0 [(0, .ref v0), (1, .int v1)] [] h := by
  refine x_iload_n hM d_Mo_isThing_0 rfl 1 rfl ?_
  refine x_iconst (v := 0) hM d_Mo_isThing_1 (by decide) ?_
  refine x_aload_n hM d_Mo_isThing_2 rfl 0 rfl ?_
  obtain ⟨c4, F⟩ := F
  refine x_geti hG hM ck_Mo 0 (Nat.le_of_ble_eq_true rfl) rfl rfl w_897 rfl d_Mo_isThing_3 c4 ?_
  refine x_iconst (v := 1) hM d_Mo_isThing_6 (by decide) ?_
  refine x_isub hM d_Mo_isThing_7 ?_
  refine x_callS hG hM (r' := r_Mo_isIn) [.int v1, .int 0, .int ((kI h v0 0) - 1)] rfl yk_Mo_isIn ⟨Nat.le_of_ble_eq_true rfl, Nat.le_of_ble_eq_true rfl⟩ w_1017 w_1018 rfl rfl (Nat.le_of_ble_eq_true rfl) d_Mo_isThing_8 (sem_mono F ?_)
  intro u2 h1 F
  obtain ⟨x3, rfl, F⟩ := F
  exact x_zreturn hM d_Mo_isThing_11 rfl F.1 F.2
set_option maxRecDepth 100000 in
set_option maxHeartbeats 4000000 in
theorem S_Mo_more_0 {G : Gc} {M : Mc} {Q : State → Prop} {K : Option Value → Hp → Prop} (hG : gok G) (hM : mok G M r_Mo_more Q K) (v0 : Nat) (v1 : Int32) (v2 : Int32) (v3 : Int32) (v4 : Int32) (h : Hp) (F : kT h v0 = 12 ∧ kR h v0 5 = some (rf h v0 5) ∧ (kT h (rf h v0 5) = 50 ∧ vp_in v1 (kN h (rf h v0 5)) ∧ (((kI h (rf h v0 5) (Int32.toNatClampNeg v1)) = 4 → K (some (.int (-3))) h) ∧ (¬ (kI h (rf h v0 5) (Int32.toNatClampNeg v1)) = 4 → (kT h v0 = 12 ∧ kR h v0 5 = some (rf h v0 5) ∧ (kT h (rf h v0 5) = 50 ∧ vp_in v1 (kN h (rf h v0 5)) ∧ (kT h v0 = 12 ∧ kR h v0 6 = some (rf h v0 6) ∧ (kT h (rf h v0 6) = 50 ∧ vp_in ((12 * v1) + (3 * (kI h (rf h v0 5) (Int32.toNatClampNeg v1)))) (kN h (rf h v0 6)) ∧ (∀ h1 : Hp, h1 = wI h (rf h v0 6) (Int32.toNatClampNeg ((12 * v1) + (3 * (kI h (rf h v0 5) (Int32.toNatClampNeg v1))))) v2 → (kT h1 v0 = 12 ∧ kR h1 v0 6 = some (rf h1 v0 6) ∧ (kT h1 (rf h1 v0 6) = 50 ∧ vp_in (((12 * v1) + (3 * (kI h (rf h v0 5) (Int32.toNatClampNeg v1)))) + 1) (kN h1 (rf h1 v0 6)) ∧ (∀ h2 : Hp, h2 = wI h1 (rf h1 v0 6) (Int32.toNatClampNeg (((12 * v1) + (3 * (kI h (rf h v0 5) (Int32.toNatClampNeg v1)))) + 1)) v3 → (kT h2 v0 = 12 ∧ kR h2 v0 6 = some (rf h2 v0 6) ∧ (kT h2 (rf h2 v0 6) = 50 ∧ vp_in (((12 * v1) + (3 * (kI h (rf h v0 5) (Int32.toNatClampNeg v1)))) + 2) (kN h2 (rf h2 v0 6)) ∧ (∀ h3 : Hp, h3 = wI h2 (rf h2 v0 6) (Int32.toNatClampNeg (((12 * v1) + (3 * (kI h (rf h v0 5) (Int32.toNatClampNeg v1)))) + 2)) v4 → (kT h3 v0 = 12 ∧ kR h3 v0 5 = some (rf h3 v0 5) ∧ (kT h3 (rf h3 v0 5) = 50 ∧ vp_in v1 (kN h3 (rf h3 v0 5)) ∧ (kT h3 (rf h3 v0 5) = 50 ∧ vp_in v1 (kN h3 (rf h3 v0 5)) ∧ (∀ h4 : Hp, h4 = wI h3 (rf h3 v0 5) (Int32.toNatClampNeg v1) ((kI h3 (rf h3 v0 5) (Int32.toNatClampNeg v1)) + 1) → (kT h4 v0 = 12 ∧ sem G r_Mo_forget [.ref v0] h4 (fun u6 h5 => u6 = none ∧ (kT h5 v0 = 12 ∧ kR h5 v0 5 = some (rf h5 v0 5) ∧ (kT h5 (rf h5 v0 5) = 50 ∧ vp_in v1 (kN h5 (rf h5 v0 5)) ∧ K (some (.int (kI h5 (rf h5 v0 5) (Int32.toNatClampNeg v1)))) h5))))))))))))))))))))))) : X G M Q 0 [(0, .ref v0), (1, .int v1), (2, .int v2), (3, .int v3), (4, .int v4)] [] h := by
  refine x_aload_n hM d_Mo_more_0 rfl 0 rfl ?_
  obtain ⟨c37, F⟩ := F
  obtain ⟨c38, F⟩ := F
  refine x_getr hG hM ck_Mo 5 (Nat.le_of_ble_eq_true rfl) rfl rfl w_902 rfl d_Mo_more_1 c37 c38 ?_
  refine x_iload_n hM d_Mo_more_4 rfl 1 rfl ?_
  obtain ⟨c35, F⟩ := F
  obtain ⟨c36, F⟩ := F
  refine x_iaload hG hM d_Mo_more_5 c35 c36 ?_
  refine x_iconst (v := 4) hM d_Mo_more_6 (by decide) ?_
  refine x_icmp_ne (tgt := 13) hM d_Mo_more_7 (by decide) (fun q34 => ?_) (fun q34 => ?_)
  · replace F := F.2 q34
    refine x_bipush (v := 12) hM d_Mo_more_13 (by decide) ?_
    refine x_iload_n hM d_Mo_more_15 rfl 1 rfl ?_
    refine x_imul hM d_Mo_more_16 ?_
    refine x_iconst (v := 3) hM d_Mo_more_17 (by decide) ?_
    refine x_aload_n hM d_Mo_more_18 rfl 0 rfl ?_
    obtain ⟨c32, F⟩ := F
    obtain ⟨c33, F⟩ := F
    refine x_getr hG hM ck_Mo 5 (Nat.le_of_ble_eq_true rfl) rfl rfl w_902 rfl d_Mo_more_19 c32 c33 ?_
    refine x_iload_n hM d_Mo_more_22 rfl 1 rfl ?_
    obtain ⟨c30, F⟩ := F
    obtain ⟨c31, F⟩ := F
    refine x_iaload hG hM d_Mo_more_23 c30 c31 ?_
    refine x_imul hM d_Mo_more_24 ?_
    refine x_iadd hM d_Mo_more_25 ?_
    refine x_istore (lv2 := [(5, .int ((12 * v1) + (3 * (kI h (rf h v0 5) (Int32.toNatClampNeg v1))))), (0, .ref v0), (1, .int v1), (2, .int v2), (3, .int v3), (4, .int v4)]) hM d_Mo_more_26 (Nat.le_of_ble_eq_true rfl) rfl ?_
    refine x_aload_n hM d_Mo_more_28 rfl 1 rfl ?_
    obtain ⟨c28, F⟩ := F
    obtain ⟨c29, F⟩ := F
    refine x_getr hG hM ck_Mo 6 (Nat.le_of_ble_eq_true rfl) rfl rfl w_903 rfl d_Mo_more_29 c28 c29 ?_
    refine x_iload hM d_Mo_more_32 0 rfl ?_
    refine x_iload_n hM d_Mo_more_34 rfl 3 rfl ?_
    obtain ⟨c26, F⟩ := F
    obtain ⟨c27, F⟩ := F
    replace F := F _ rfl
    refine x_iastore hG hM d_Mo_more_35 c26 c27 ?_
    refine x_aload_n hM d_Mo_more_36 rfl 1 rfl ?_
    obtain ⟨c24, F⟩ := F
    obtain ⟨c25, F⟩ := F
    refine x_getr hG hM ck_Mo 6 (Nat.le_of_ble_eq_true rfl) rfl rfl w_903 rfl d_Mo_more_37 c24 c25 ?_
    refine x_iload hM d_Mo_more_40 0 rfl ?_
    refine x_iconst (v := 1) hM d_Mo_more_42 (by decide) ?_
    refine x_iadd hM d_Mo_more_43 ?_
    refine x_iload_n hM d_Mo_more_44 rfl 4 rfl ?_
    obtain ⟨c22, F⟩ := F
    obtain ⟨c23, F⟩ := F
    replace F := F _ rfl
    refine x_iastore hG hM d_Mo_more_45 c22 c23 ?_
    refine x_aload_n hM d_Mo_more_46 rfl 1 rfl ?_
    obtain ⟨c20, F⟩ := F
    obtain ⟨c21, F⟩ := F
    refine x_getr hG hM ck_Mo 6 (Nat.le_of_ble_eq_true rfl) rfl rfl w_903 rfl d_Mo_more_47 c20 c21 ?_
    refine x_iload hM d_Mo_more_50 0 rfl ?_
    refine x_iconst (v := 2) hM d_Mo_more_52 (by decide) ?_
    refine x_iadd hM d_Mo_more_53 ?_
    refine x_iload hM d_Mo_more_54 5 rfl ?_
    obtain ⟨c18, F⟩ := F
    obtain ⟨c19, F⟩ := F
    replace F := F _ rfl
    refine x_iastore hG hM d_Mo_more_56 c18 c19 ?_
    refine x_aload_n hM d_Mo_more_57 rfl 1 rfl ?_
    obtain ⟨c16, F⟩ := F
    obtain ⟨c17, F⟩ := F
    refine x_getr hG hM ck_Mo 5 (Nat.le_of_ble_eq_true rfl) rfl rfl w_902 rfl d_Mo_more_58 c16 c17 ?_
    refine x_iload_n hM d_Mo_more_61 rfl 2 rfl ?_
    refine x_dup2 hM d_Mo_more_62 rfl rfl ?_
    obtain ⟨c14, F⟩ := F
    obtain ⟨c15, F⟩ := F
    refine x_iaload hG hM d_Mo_more_63 c14 c15 ?_
    refine x_iconst (v := 1) hM d_Mo_more_64 (by decide) ?_
    refine x_iadd hM d_Mo_more_65 ?_
    obtain ⟨c12, F⟩ := F
    obtain ⟨c13, F⟩ := F
    replace F := F _ rfl
    refine x_iastore hG hM d_Mo_more_66 c12 c13 ?_
    refine x_aload_n hM d_Mo_more_67 rfl 1 rfl ?_
    obtain ⟨c11, F⟩ := F
    refine x_callV hG hM (r' := r_Mo_forget) (ci := 11) [] rfl rfl (Nat.le_of_ble_eq_true rfl) yk_Mo_forget ⟨Nat.le_of_ble_eq_true rfl, Nat.le_of_ble_eq_true rfl⟩ w_893 w_895 ws_Mo_forget rfl rfl (Nat.le_of_ble_eq_true rfl) d_Mo_more_68 c11 (sem_mono F ?_)
    intro u6 h5 F
    obtain ⟨rfl, F⟩ := F
    refine x_aload_n hM d_Mo_more_71 rfl 1 rfl ?_
    obtain ⟨c9, F⟩ := F
    obtain ⟨c10, F⟩ := F
    refine x_getr hG hM ck_Mo 5 (Nat.le_of_ble_eq_true rfl) rfl rfl w_902 rfl d_Mo_more_72 c9 c10 ?_
    refine x_iload_n hM d_Mo_more_75 rfl 2 rfl ?_
    obtain ⟨c7, F⟩ := F
    obtain ⟨c8, F⟩ := F
    refine x_iaload hG hM d_Mo_more_76 c7 c8 ?_
    exact x_ireturn hM d_Mo_more_77 rfl F
  · replace F := F.1 q34
    refine x_bipush (v := (-3)) hM d_Mo_more_10 (by decide) ?_
    exact x_ireturn hM d_Mo_more_12 rfl F
set_option maxRecDepth 100000 in
set_option maxHeartbeats 4000000 in
theorem S_Mo_aim_0 {G : Gc} {M : Mc} {Q : State → Prop} {K : Option Value → Hp → Prop} (hG : gok G) (hM : mok G M r_Mo_aim Q K) (v0 : Nat) (v1 : Int32) (v2 : Int32) (v3 : Int32) (h : Hp) (F : kT h v0 = 12 ∧ sem G r_Mo_isCondition [.ref v0, .int v1, .int v2, .int v3] h (fun u2 h1 => ∃ x3 : Int32, u2 = some (.int x3) ∧ ((x3 = 0 → K (some (.int (-2))) h1) ∧ (¬ x3 = 0 → (kT h1 v0 = 12 ∧ sem G r_Mo_more [.ref v0, .int 12, .int v1, .int v2, .int v3] h1 (fun u5 h4 => ∃ x6 : Int32, u5 = some (.int x6) ∧ K (some (.int x6)) h4)))))) : X G M Q 0 [(0, .ref v0), (1, .int v1), (2, .int v2), (3, .int v3)] [] h := by
  refine x_aload_n hM d_Mo_aim_0 rfl 0 rfl ?_
  refine x_iload_n hM d_Mo_aim_1 rfl 1 rfl ?_
  refine x_iload_n hM d_Mo_aim_2 rfl 2 rfl ?_
  refine x_iload_n hM d_Mo_aim_3 rfl 3 rfl ?_
  obtain ⟨c9, F⟩ := F
  refine x_callV hG hM (r' := r_Mo_isCondition) (ci := 11) [.int v1, .int v2, .int v3] rfl rfl (Nat.le_of_ble_eq_true rfl) yk_Mo_isCondition ⟨Nat.le_of_ble_eq_true rfl, Nat.le_of_ble_eq_true rfl⟩ w_1048 w_1050 ws_Mo_isCondition rfl rfl (Nat.le_of_ble_eq_true rfl) d_Mo_aim_4 c9 (sem_mono F ?_)
  intro u2 h1 F
  obtain ⟨x3, rfl, F⟩ := F
  refine x_if_eq (tgt := 22) hM d_Mo_aim_7 (by decide) (fun q8 => ?_) (fun q8 => ?_)
  · replace F := F.1 q8
    refine x_bipush (v := (-2)) hM d_Mo_aim_22 (by decide) ?_
    exact x_ireturn hM d_Mo_aim_24 rfl F
  · replace F := F.2 q8
    refine x_aload_n hM d_Mo_aim_10 rfl 0 rfl ?_
    refine x_bipush (v := 12) hM d_Mo_aim_11 (by decide) ?_
    refine x_iload_n hM d_Mo_aim_13 rfl 1 rfl ?_
    refine x_iload_n hM d_Mo_aim_14 rfl 2 rfl ?_
    refine x_iload_n hM d_Mo_aim_15 rfl 3 rfl ?_
    obtain ⟨c7, F⟩ := F
    refine x_callV hG hM (r' := r_Mo_more) (ci := 11) [.int 12, .int v1, .int v2, .int v3] rfl rfl (Nat.le_of_ble_eq_true rfl) yk_Mo_more ⟨Nat.le_of_ble_eq_true rfl, Nat.le_of_ble_eq_true rfl⟩ w_1056 w_1058 ws_Mo_more rfl rfl (Nat.le_of_ble_eq_true rfl) d_Mo_aim_16 c7 (sem_mono F ?_)
    intro u5 h4 F
    obtain ⟨x6, rfl, F⟩ := F
    refine x_goto (tgt := 24) hM d_Mo_aim_19 (by decide) ?_
    exact x_ireturn hM d_Mo_aim_24 rfl F
set_option maxRecDepth 100000 in
set_option maxHeartbeats 4000000 in
theorem S_Mo_aimless_0 {G : Gc} {M : Mc} {Q : State → Prop} {K : Option Value → Hp → Prop} (hG : gok G) (hM : mok G M r_Mo_aimless Q K) (v0 : Nat) (h : Hp) (F : kT h v0 = 12 ∧ kR h v0 5 = some (rf h v0 5) ∧ (kT h (rf h v0 5) = 50 ∧ vp_in 12 (kN h (rf h v0 5)) ∧ (kT h v0 = 12 ∧ kR h v0 5 = some (rf h v0 5) ∧ (kT h (rf h v0 5) = 50 ∧ vp_in 12 (kN h (rf h v0 5)) ∧ (∀ h1 : Hp, h1 = wI h (rf h v0 5) (Int32.toNatClampNeg 12) 0 → (kT h1 v0 = 12 ∧ sem G r_Mo_forget [.ref v0] h1 (fun u3 h2 => u3 = none ∧ K (some (.int (kI h (rf h v0 5) (Int32.toNatClampNeg 12)))) h2))))))) : X G M Q 0 [(0, .ref v0)] [] h := by
  refine x_aload_n hM d_Mo_aimless_0 rfl 0 rfl ?_
  obtain ⟨c11, F⟩ := F
  obtain ⟨c12, F⟩ := F
  refine x_getr hG hM ck_Mo 5 (Nat.le_of_ble_eq_true rfl) rfl rfl w_902 rfl d_Mo_aimless_1 c11 c12 ?_
  refine x_bipush (v := 12) hM d_Mo_aimless_4 (by decide) ?_
  obtain ⟨c9, F⟩ := F
  obtain ⟨c10, F⟩ := F
  refine x_iaload hG hM d_Mo_aimless_6 c9 c10 ?_
  refine x_istore_n (lv2 := [(1, .int (kI h (rf h v0 5) (Int32.toNatClampNeg 12))), (0, .ref v0)]) hM d_Mo_aimless_7 rfl (Nat.le_of_ble_eq_true rfl) rfl ?_
  refine x_aload_n hM d_Mo_aimless_8 rfl 1 rfl ?_
  obtain ⟨c7, F⟩ := F
  obtain ⟨c8, F⟩ := F
  refine x_getr hG hM ck_Mo 5 (Nat.le_of_ble_eq_true rfl) rfl rfl w_902 rfl d_Mo_aimless_9 c7 c8 ?_
  refine x_bipush (v := 12) hM d_Mo_aimless_12 (by decide) ?_
  refine x_iconst (v := 0) hM d_Mo_aimless_14 (by decide) ?_
  obtain ⟨c5, F⟩ := F
  obtain ⟨c6, F⟩ := F
  replace F := F _ rfl
  refine x_iastore hG hM d_Mo_aimless_15 c5 c6 ?_
  refine x_aload_n hM d_Mo_aimless_16 rfl 1 rfl ?_
  obtain ⟨c4, F⟩ := F
  refine x_callV hG hM (r' := r_Mo_forget) (ci := 11) [] rfl rfl (Nat.le_of_ble_eq_true rfl) yk_Mo_forget ⟨Nat.le_of_ble_eq_true rfl, Nat.le_of_ble_eq_true rfl⟩ w_893 w_895 ws_Mo_forget rfl rfl (Nat.le_of_ble_eq_true rfl) d_Mo_aimless_17 c4 (sem_mono F ?_)
  intro u3 h2 F
  obtain ⟨rfl, F⟩ := F
  refine x_iload_n hM d_Mo_aimless_20 rfl 0 rfl ?_
  exact x_ireturn hM d_Mo_aimless_21 rfl F
set_option maxRecDepth 100000 in
set_option maxHeartbeats 4000000 in
theorem S_Mo_effect_0 {G : Gc} {M : Mc} {Q : State → Prop} {K : Option Value → Hp → Prop} (hG : gok G) (hM : mok G M r_Mo_effect Q K) (v0 : Nat) (v1 : Int32) (v2 : Int32) (v3 : Int32) (v4 : Int32) (v5 : Int32) (h : Hp) (F : kT h v0 = 12 ∧ sem G r_Mo_isAct [.ref v0, .int v1] h (fun u2 h1 => ∃ x3 : Int32, u2 = some (.int x3) ∧ ((x3 = 0 → K (some (.int (-2))) h1) ∧ (¬ x3 = 0 → (kT h1 v0 = 12 ∧ kR h1 v0 4 = some (rf h1 v0 4) ∧ (kT h1 (rf h1 v0 4) = 50 ∧ vp_in v1 (kN h1 (rf h1 v0 4)) ∧ (sem G r_Mo_isIn [.int v2, .int 0, .int ((kI h1 (rf h1 v0 4) (Int32.toNatClampNeg v1)) - 1)] h1 (fun u5 h4 => ∃ x6 : Int32, u5 = some (.int x6) ∧ ((x6 = 0 → K (some (.int (-2))) h4) ∧ (¬ x6 = 0 → (kT h4 v0 = 12 ∧ sem G r_Mo_isThing [.ref v0, .int v3] h4 (fun u8 h7 => ∃ x9 : Int32, u8 = some (.int x9) ∧ ((x9 = 0 → K (some (.int (-2))) h7) ∧ (¬ x9 = 0 → (sem G r_Mo_isIn [.int v4, .int 0, .int 2] h7 (fun u11 h10 => ∃ x12 : Int32, u11 = some (.int x12) ∧ ((x12 = 0 → K (some (.int (-2))) h10) ∧ (¬ x12 = 0 → ((v4 = 0 → (kT h10 v0 = 12 ∧ kR h10 v0 1 = some (rf h10 v0 1) ∧ (kT h10 (rf h10 v0 1) = 50 ∧ vp_in v3 (kN h10 (rf h10 v0 1)) ∧ (sem G r_Mo_isIn [.int v5, .int 0, .int ((kI h10 (rf h10 v0 1) (Int32.toNatClampNeg v3)) - 1)] h10 (fun u100 h99 => ∃ x101 : Int32, u100 = some (.int x101) ∧ ((x101 = 0 → K (some (.int (-2))) h99) ∧ (¬ x101 = 0 → (kT h99 v0 = 12 ∧ kR h99 v0 7 = some (rf h99 v0 7) ∧ (kT h99 (rf h99 v0 7) = 50 ∧ vp_in ((3 * v1) + v2) (kN h99 (rf h99 v0 7)) ∧ (((kI h99 (rf h99 v0 7) (Int32.toNatClampNeg ((3 * v1) + v2))) = 4 → K (some (.int (-3))) h99) ∧ (¬ (kI h99 (rf h99 v0 7) (Int32.toNatClampNeg ((3 * v1) + v2))) = 4 → (kT h99 v0 = 12 ∧ kR h99 v0 7 = some (rf h99 v0 7) ∧ (kT h99 (rf h99 v0 7) = 50 ∧ vp_in ((3 * v1) + v2) (kN h99 (rf h99 v0 7)) ∧ (kT h99 v0 = 12 ∧ kR h99 v0 8 = some (rf h99 v0 8) ∧ (kT h99 (rf h99 v0 8) = 50 ∧ vp_in ((12 * ((3 * v1) + v2)) + (3 * (kI h99 (rf h99 v0 7) (Int32.toNatClampNeg ((3 * v1) + v2))))) (kN h99 (rf h99 v0 8)) ∧ (∀ h102 : Hp, h102 = wI h99 (rf h99 v0 8) (Int32.toNatClampNeg ((12 * ((3 * v1) + v2)) + (3 * (kI h99 (rf h99 v0 7) (Int32.toNatClampNeg ((3 * v1) + v2)))))) v3 → (kT h102 v0 = 12 ∧ kR h102 v0 8 = some (rf h102 v0 8) ∧ (kT h102 (rf h102 v0 8) = 50 ∧ vp_in (((12 * ((3 * v1) + v2)) + (3 * (kI h99 (rf h99 v0 7) (Int32.toNatClampNeg ((3 * v1) + v2))))) + 1) (kN h102 (rf h102 v0 8)) ∧ (∀ h103 : Hp, h103 = wI h102 (rf h102 v0 8) (Int32.toNatClampNeg (((12 * ((3 * v1) + v2)) + (3 * (kI h99 (rf h99 v0 7) (Int32.toNatClampNeg ((3 * v1) + v2))))) + 1)) v4 → (kT h103 v0 = 12 ∧ kR h103 v0 8 = some (rf h103 v0 8) ∧ (kT h103 (rf h103 v0 8) = 50 ∧ vp_in (((12 * ((3 * v1) + v2)) + (3 * (kI h99 (rf h99 v0 7) (Int32.toNatClampNeg ((3 * v1) + v2))))) + 2) (kN h103 (rf h103 v0 8)) ∧ (∀ h104 : Hp, h104 = wI h103 (rf h103 v0 8) (Int32.toNatClampNeg (((12 * ((3 * v1) + v2)) + (3 * (kI h99 (rf h99 v0 7) (Int32.toNatClampNeg ((3 * v1) + v2))))) + 2)) v5 → (kT h104 v0 = 12 ∧ kR h104 v0 7 = some (rf h104 v0 7) ∧ (kT h104 (rf h104 v0 7) = 50 ∧ vp_in ((3 * v1) + v2) (kN h104 (rf h104 v0 7)) ∧ (kT h104 (rf h104 v0 7) = 50 ∧ vp_in ((3 * v1) + v2) (kN h104 (rf h104 v0 7)) ∧ (∀ h105 : Hp, h105 = wI h104 (rf h104 v0 7) (Int32.toNatClampNeg ((3 * v1) + v2)) ((kI h104 (rf h104 v0 7) (Int32.toNatClampNeg ((3 * v1) + v2))) + 1) → (kT h105 v0 = 12 ∧ sem G r_Mo_forget [.ref v0] h105 (fun u107 h106 => u107 = none ∧ (kT h106 v0 = 12 ∧ kR h106 v0 7 = some (rf h106 v0 7) ∧ (kT h106 (rf h106 v0 7) = 50 ∧ vp_in ((3 * v1) + v2) (kN h106 (rf h106 v0 7)) ∧ K (some (.int (kI h106 (rf h106 v0 7) (Int32.toNatClampNeg ((3 * v1) + v2))))) h106)))))))))))))))))))))))))))))) ∧ (¬ v4 = 0 → ((v4 = 1 → (kT h10 v0 = 12 ∧ sem G r_Mo_isThing [.ref v0, .int v5] h10 (fun u56 h55 => ∃ x57 : Int32, u56 = some (.int x57) ∧ ((x57 = 0 → K (some (.int (-2))) h55) ∧ (¬ x57 = 0 → (kT h55 v0 = 12 ∧ kR h55 v0 7 = some (rf h55 v0 7) ∧ (kT h55 (rf h55 v0 7) = 50 ∧ vp_in ((3 * v1) + v2) (kN h55 (rf h55 v0 7)) ∧ (((kI h55 (rf h55 v0 7) (Int32.toNatClampNeg ((3 * v1) + v2))) = 4 → K (some (.int (-3))) h55) ∧ (¬ (kI h55 (rf h55 v0 7) (Int32.toNatClampNeg ((3 * v1) + v2))) = 4 → (kT h55 v0 = 12 ∧ kR h55 v0 7 = some (rf h55 v0 7) ∧ (kT h55 (rf h55 v0 7) = 50 ∧ vp_in ((3 * v1) + v2) (kN h55 (rf h55 v0 7)) ∧ (kT h55 v0 = 12 ∧ kR h55 v0 8 = some (rf h55 v0 8) ∧ (kT h55 (rf h55 v0 8) = 50 ∧ vp_in ((12 * ((3 * v1) + v2)) + (3 * (kI h55 (rf h55 v0 7) (Int32.toNatClampNeg ((3 * v1) + v2))))) (kN h55 (rf h55 v0 8)) ∧ (∀ h58 : Hp, h58 = wI h55 (rf h55 v0 8) (Int32.toNatClampNeg ((12 * ((3 * v1) + v2)) + (3 * (kI h55 (rf h55 v0 7) (Int32.toNatClampNeg ((3 * v1) + v2)))))) v3 → (kT h58 v0 = 12 ∧ kR h58 v0 8 = some (rf h58 v0 8) ∧ (kT h58 (rf h58 v0 8) = 50 ∧ vp_in (((12 * ((3 * v1) + v2)) + (3 * (kI h55 (rf h55 v0 7) (Int32.toNatClampNeg ((3 * v1) + v2))))) + 1) (kN h58 (rf h58 v0 8)) ∧ (∀ h59 : Hp, h59 = wI h58 (rf h58 v0 8) (Int32.toNatClampNeg (((12 * ((3 * v1) + v2)) + (3 * (kI h55 (rf h55 v0 7) (Int32.toNatClampNeg ((3 * v1) + v2))))) + 1)) v4 → (kT h59 v0 = 12 ∧ kR h59 v0 8 = some (rf h59 v0 8) ∧ (kT h59 (rf h59 v0 8) = 50 ∧ vp_in (((12 * ((3 * v1) + v2)) + (3 * (kI h55 (rf h55 v0 7) (Int32.toNatClampNeg ((3 * v1) + v2))))) + 2) (kN h59 (rf h59 v0 8)) ∧ (∀ h60 : Hp, h60 = wI h59 (rf h59 v0 8) (Int32.toNatClampNeg (((12 * ((3 * v1) + v2)) + (3 * (kI h55 (rf h55 v0 7) (Int32.toNatClampNeg ((3 * v1) + v2))))) + 2)) v5 → (kT h60 v0 = 12 ∧ kR h60 v0 7 = some (rf h60 v0 7) ∧ (kT h60 (rf h60 v0 7) = 50 ∧ vp_in ((3 * v1) + v2) (kN h60 (rf h60 v0 7)) ∧ (kT h60 (rf h60 v0 7) = 50 ∧ vp_in ((3 * v1) + v2) (kN h60 (rf h60 v0 7)) ∧ (∀ h61 : Hp, h61 = wI h60 (rf h60 v0 7) (Int32.toNatClampNeg ((3 * v1) + v2)) ((kI h60 (rf h60 v0 7) (Int32.toNatClampNeg ((3 * v1) + v2))) + 1) → (kT h61 v0 = 12 ∧ sem G r_Mo_forget [.ref v0] h61 (fun u63 h62 => u63 = none ∧ (kT h62 v0 = 12 ∧ kR h62 v0 7 = some (rf h62 v0 7) ∧ (kT h62 (rf h62 v0 7) = 50 ∧ vp_in ((3 * v1) + v2) (kN h62 (rf h62 v0 7)) ∧ K (some (.int (kI h62 (rf h62 v0 7) (Int32.toNatClampNeg ((3 * v1) + v2))))) h62)))))))))))))))))))))))))))) ∧ (¬ v4 = 1 → (sem G r_Mo_isIn [.int v5, .int 0, .int 3] h10 (fun u14 h13 => ∃ x15 : Int32, u14 = some (.int x15) ∧ ((x15 = 0 → K (some (.int (-2))) h13) ∧ (¬ x15 = 0 → (kT h13 v0 = 12 ∧ kR h13 v0 7 = some (rf h13 v0 7) ∧ (kT h13 (rf h13 v0 7) = 50 ∧ vp_in ((3 * v1) + v2) (kN h13 (rf h13 v0 7)) ∧ (((kI h13 (rf h13 v0 7) (Int32.toNatClampNeg ((3 * v1) + v2))) = 4 → K (some (.int (-3))) h13) ∧ (¬ (kI h13 (rf h13 v0 7) (Int32.toNatClampNeg ((3 * v1) + v2))) = 4 → (kT h13 v0 = 12 ∧ kR h13 v0 7 = some (rf h13 v0 7) ∧ (kT h13 (rf h13 v0 7) = 50 ∧ vp_in ((3 * v1) + v2) (kN h13 (rf h13 v0 7)) ∧ (kT h13 v0 = 12 ∧ kR h13 v0 8 = some (rf h13 v0 8) ∧ (kT h13 (rf h13 v0 8) = 50 ∧ vp_in ((12 * ((3 * v1) + v2)) + (3 * (kI h13 (rf h13 v0 7) (Int32.toNatClampNeg ((3 * v1) + v2))))) (kN h13 (rf h13 v0 8)) ∧ (∀ h16 : Hp, h16 = wI h13 (rf h13 v0 8) (Int32.toNatClampNeg ((12 * ((3 * v1) + v2)) + (3 * (kI h13 (rf h13 v0 7) (Int32.toNatClampNeg ((3 * v1) + v2)))))) v3 → (kT h16 v0 = 12 ∧ kR h16 v0 8 = some (rf h16 v0 8) ∧ (kT h16 (rf h16 v0 8) = 50 ∧ vp_in (((12 * ((3 * v1) + v2)) + (3 * (kI h13 (rf h13 v0 7) (Int32.toNatClampNeg ((3 * v1) + v2))))) + 1) (kN h16 (rf h16 v0 8)) ∧ (∀ h17 : Hp, h17 = wI h16 (rf h16 v0 8) (Int32.toNatClampNeg (((12 * ((3 * v1) + v2)) + (3 * (kI h13 (rf h13 v0 7) (Int32.toNatClampNeg ((3 * v1) + v2))))) + 1)) v4 → (kT h17 v0 = 12 ∧ kR h17 v0 8 = some (rf h17 v0 8) ∧ (kT h17 (rf h17 v0 8) = 50 ∧ vp_in (((12 * ((3 * v1) + v2)) + (3 * (kI h13 (rf h13 v0 7) (Int32.toNatClampNeg ((3 * v1) + v2))))) + 2) (kN h17 (rf h17 v0 8)) ∧ (∀ h18 : Hp, h18 = wI h17 (rf h17 v0 8) (Int32.toNatClampNeg (((12 * ((3 * v1) + v2)) + (3 * (kI h13 (rf h13 v0 7) (Int32.toNatClampNeg ((3 * v1) + v2))))) + 2)) v5 → (kT h18 v0 = 12 ∧ kR h18 v0 7 = some (rf h18 v0 7) ∧ (kT h18 (rf h18 v0 7) = 50 ∧ vp_in ((3 * v1) + v2) (kN h18 (rf h18 v0 7)) ∧ (kT h18 (rf h18 v0 7) = 50 ∧ vp_in ((3 * v1) + v2) (kN h18 (rf h18 v0 7)) ∧ (∀ h19 : Hp, h19 = wI h18 (rf h18 v0 7) (Int32.toNatClampNeg ((3 * v1) + v2)) ((kI h18 (rf h18 v0 7) (Int32.toNatClampNeg ((3 * v1) + v2))) + 1) → (kT h19 v0 = 12 ∧ sem G r_Mo_forget [.ref v0] h19 (fun u21 h20 => u21 = none ∧ (kT h20 v0 = 12 ∧ kR h20 v0 7 = some (rf h20 v0 7) ∧ (kT h20 (rf h20 v0 7) = 50 ∧ vp_in ((3 * v1) + v2) (kN h20 (rf h20 v0 7)) ∧ K (some (.int (kI h20 (rf h20 v0 7) (Int32.toNatClampNeg ((3 * v1) + v2))))) h20))))))))))))))))))))))))))))))))))))))))))))))))) : X G M Q 0 [(0, .ref v0), (1, .int v1), (2, .int v2), (3, .int v3), (4, .int v4), (5, .int v5)] [] h := by
  refine x_aload_n hM d_Mo_effect_0 rfl 0 rfl ?_
  refine x_iload_n hM d_Mo_effect_1 rfl 1 rfl ?_
  obtain ⟨c155, F⟩ := F
  refine x_callV hG hM (r' := r_Mo_isAct) (ci := 11) [.int v1] rfl rfl (Nat.le_of_ble_eq_true rfl) yk_Mo_isAct ⟨Nat.le_of_ble_eq_true rfl, Nat.le_of_ble_eq_true rfl⟩ w_1040 w_1042 ws_Mo_isAct rfl rfl (Nat.le_of_ble_eq_true rfl) d_Mo_effect_2 c155 (sem_mono F ?_)
  intro u2 h1 F
  obtain ⟨x3, rfl, F⟩ := F
  refine x_if_eq (tgt := 95) hM d_Mo_effect_5 (by decide) (fun q154 => ?_) (fun q154 => ?_)
  · replace F := F.1 q154
    refine x_bipush (v := (-2)) hM d_Mo_effect_95 (by decide) ?_
    exact x_ireturn hM d_Mo_effect_97 rfl F
  · replace F := F.2 q154
    refine x_iload_n hM d_Mo_effect_8 rfl 2 rfl ?_
    refine x_iconst (v := 0) hM d_Mo_effect_9 (by decide) ?_
    refine x_aload_n hM d_Mo_effect_10 rfl 0 rfl ?_
    obtain ⟨c152, F⟩ := F
    obtain ⟨c153, F⟩ := F
    refine x_getr hG hM ck_Mo 4 (Nat.le_of_ble_eq_true rfl) rfl rfl w_901 rfl d_Mo_effect_11 c152 c153 ?_
    refine x_iload_n hM d_Mo_effect_14 rfl 1 rfl ?_
    obtain ⟨c150, F⟩ := F
    obtain ⟨c151, F⟩ := F
    refine x_iaload hG hM d_Mo_effect_15 c150 c151 ?_
    refine x_iconst (v := 1) hM d_Mo_effect_16 (by decide) ?_
    refine x_isub hM d_Mo_effect_17 ?_
    refine x_callS hG hM (r' := r_Mo_isIn) [.int v2, .int 0, .int ((kI h1 (rf h1 v0 4) (Int32.toNatClampNeg v1)) - 1)] rfl yk_Mo_isIn ⟨Nat.le_of_ble_eq_true rfl, Nat.le_of_ble_eq_true rfl⟩ w_1017 w_1018 rfl rfl (Nat.le_of_ble_eq_true rfl) d_Mo_effect_18 (sem_mono F ?_)
    intro u5 h4 F
    obtain ⟨x6, rfl, F⟩ := F
    refine x_if_eq (tgt := 95) hM d_Mo_effect_21 (by decide) (fun q149 => ?_) (fun q149 => ?_)
    · replace F := F.1 q149
      refine x_bipush (v := (-2)) hM d_Mo_effect_95 (by decide) ?_
      exact x_ireturn hM d_Mo_effect_97 rfl F
    · replace F := F.2 q149
      refine x_aload_n hM d_Mo_effect_24 rfl 0 rfl ?_
      refine x_iload_n hM d_Mo_effect_25 rfl 3 rfl ?_
      obtain ⟨c148, F⟩ := F
      refine x_callV hG hM (r' := r_Mo_isThing) (ci := 11) [.int v3] rfl rfl (Nat.le_of_ble_eq_true rfl) yk_Mo_isThing ⟨Nat.le_of_ble_eq_true rfl, Nat.le_of_ble_eq_true rfl⟩ w_1052 w_1054 ws_Mo_isThing rfl rfl (Nat.le_of_ble_eq_true rfl) d_Mo_effect_26 c148 (sem_mono F ?_)
      intro u8 h7 F
      obtain ⟨x9, rfl, F⟩ := F
      refine x_if_eq (tgt := 95) hM d_Mo_effect_29 (by decide) (fun q147 => ?_) (fun q147 => ?_)
      · replace F := F.1 q147
        refine x_bipush (v := (-2)) hM d_Mo_effect_95 (by decide) ?_
        exact x_ireturn hM d_Mo_effect_97 rfl F
      · replace F := F.2 q147
        refine x_iload hM d_Mo_effect_32 4 rfl ?_
        refine x_iconst (v := 0) hM d_Mo_effect_34 (by decide) ?_
        refine x_iconst (v := 2) hM d_Mo_effect_35 (by decide) ?_
        refine x_callS hG hM (r' := r_Mo_isIn) [.int v4, .int 0, .int 2] rfl yk_Mo_isIn ⟨Nat.le_of_ble_eq_true rfl, Nat.le_of_ble_eq_true rfl⟩ w_1017 w_1018 rfl rfl (Nat.le_of_ble_eq_true rfl) d_Mo_effect_36 (sem_mono F ?_)
        intro u11 h10 F
        obtain ⟨x12, rfl, F⟩ := F
        refine x_if_eq (tgt := 95) hM d_Mo_effect_39 (by decide) (fun q146 => ?_) (fun q146 => ?_)
        · replace F := F.1 q146
          refine x_bipush (v := (-2)) hM d_Mo_effect_95 (by decide) ?_
          exact x_ireturn hM d_Mo_effect_97 rfl F
        · replace F := F.2 q146
          refine x_iload hM d_Mo_effect_42 4 rfl ?_
          refine x_if_ne (tgt := 67) hM d_Mo_effect_44 (by decide) (fun q145 => ?_) (fun q145 => ?_)
          · replace F := F.2 q145
            refine x_iload hM d_Mo_effect_67 4 rfl ?_
            refine x_iconst (v := 1) hM d_Mo_effect_69 (by decide) ?_
            refine x_icmp_ne (tgt := 85) hM d_Mo_effect_70 (by decide) (fun q98 => ?_) (fun q98 => ?_)
            · replace F := F.2 q98
              refine x_iload hM d_Mo_effect_85 5 rfl ?_
              refine x_iconst (v := 0) hM d_Mo_effect_87 (by decide) ?_
              refine x_iconst (v := 3) hM d_Mo_effect_88 (by decide) ?_
              refine x_callS hG hM (r' := r_Mo_isIn) [.int v5, .int 0, .int 3] rfl yk_Mo_isIn ⟨Nat.le_of_ble_eq_true rfl, Nat.le_of_ble_eq_true rfl⟩ w_1017 w_1018 rfl rfl (Nat.le_of_ble_eq_true rfl) d_Mo_effect_89 (sem_mono F ?_)
              intro u14 h13 F
              obtain ⟨x15, rfl, F⟩ := F
              refine x_if_ne (tgt := 98) hM d_Mo_effect_92 (by decide) (fun q54 => ?_) (fun q54 => ?_)
              · replace F := F.2 q54
                refine x_iconst (v := 3) hM d_Mo_effect_98 (by decide) ?_
                refine x_iload_n hM d_Mo_effect_99 rfl 1 rfl ?_
                refine x_imul hM d_Mo_effect_100 ?_
                refine x_iload_n hM d_Mo_effect_101 rfl 2 rfl ?_
                refine x_iadd hM d_Mo_effect_102 ?_
                refine x_istore (lv2 := [(6, .int ((3 * v1) + v2)), (0, .ref v0), (1, .int v1), (2, .int v2), (3, .int v3), (4, .int v4), (5, .int v5)]) hM d_Mo_effect_103 (Nat.le_of_ble_eq_true rfl) rfl ?_
                refine x_aload_n hM d_Mo_effect_105 rfl 1 rfl ?_
                obtain ⟨c52, F⟩ := F
                obtain ⟨c53, F⟩ := F
                refine x_getr hG hM ck_Mo 7 (Nat.le_of_ble_eq_true rfl) rfl rfl w_904 rfl d_Mo_effect_106 c52 c53 ?_
                refine x_iload hM d_Mo_effect_109 0 rfl ?_
                obtain ⟨c50, F⟩ := F
                obtain ⟨c51, F⟩ := F
                refine x_iaload hG hM d_Mo_effect_111 c50 c51 ?_
                refine x_iconst (v := 4) hM d_Mo_effect_112 (by decide) ?_
                refine x_icmp_ne (tgt := 119) hM d_Mo_effect_113 (by decide) (fun q49 => ?_) (fun q49 => ?_)
                · replace F := F.2 q49
                  refine x_bipush (v := 12) hM d_Mo_effect_119 (by decide) ?_
                  refine x_iload hM d_Mo_effect_121 0 rfl ?_
                  refine x_imul hM d_Mo_effect_123 ?_
                  refine x_iconst (v := 3) hM d_Mo_effect_124 (by decide) ?_
                  refine x_aload_n hM d_Mo_effect_125 rfl 1 rfl ?_
                  obtain ⟨c47, F⟩ := F
                  obtain ⟨c48, F⟩ := F
                  refine x_getr hG hM ck_Mo 7 (Nat.le_of_ble_eq_true rfl) rfl rfl w_904 rfl d_Mo_effect_126 c47 c48 ?_
                  refine x_iload hM d_Mo_effect_129 0 rfl ?_
                  obtain ⟨c45, F⟩ := F
                  obtain ⟨c46, F⟩ := F
                  refine x_iaload hG hM d_Mo_effect_131 c45 c46 ?_
                  refine x_imul hM d_Mo_effect_132 ?_
                  refine x_iadd hM d_Mo_effect_133 ?_
                  refine x_istore (lv2 := [(7, .int ((12 * ((3 * v1) + v2)) + (3 * (kI h13 (rf h13 v0 7) (Int32.toNatClampNeg ((3 * v1) + v2)))))), (6, .int ((3 * v1) + v2)), (0, .ref v0), (1, .int v1), (2, .int v2), (3, .int v3), (4, .int v4), (5, .int v5)]) hM d_Mo_effect_134 (Nat.le_of_ble_eq_true rfl) rfl ?_
                  refine x_aload_n hM d_Mo_effect_136 rfl 2 rfl ?_
                  obtain ⟨c43, F⟩ := F
                  obtain ⟨c44, F⟩ := F
                  refine x_getr hG hM ck_Mo 8 (Nat.le_of_ble_eq_true rfl) rfl rfl w_905 rfl d_Mo_effect_137 c43 c44 ?_
                  refine x_iload hM d_Mo_effect_140 0 rfl ?_
                  refine x_iload_n hM d_Mo_effect_142 rfl 5 rfl ?_
                  obtain ⟨c41, F⟩ := F
                  obtain ⟨c42, F⟩ := F
                  replace F := F _ rfl
                  refine x_iastore hG hM d_Mo_effect_143 c41 c42 ?_
                  refine x_aload_n hM d_Mo_effect_144 rfl 2 rfl ?_
                  obtain ⟨c39, F⟩ := F
                  obtain ⟨c40, F⟩ := F
                  refine x_getr hG hM ck_Mo 8 (Nat.le_of_ble_eq_true rfl) rfl rfl w_905 rfl d_Mo_effect_145 c39 c40 ?_
                  refine x_iload hM d_Mo_effect_148 0 rfl ?_
                  refine x_iconst (v := 1) hM d_Mo_effect_150 (by decide) ?_
                  refine x_iadd hM d_Mo_effect_151 ?_
                  refine x_iload hM d_Mo_effect_152 6 rfl ?_
                  obtain ⟨c37, F⟩ := F
                  obtain ⟨c38, F⟩ := F
                  replace F := F _ rfl
                  refine x_iastore hG hM d_Mo_effect_154 c37 c38 ?_
                  refine x_aload_n hM d_Mo_effect_155 rfl 2 rfl ?_
                  obtain ⟨c35, F⟩ := F
                  obtain ⟨c36, F⟩ := F
                  refine x_getr hG hM ck_Mo 8 (Nat.le_of_ble_eq_true rfl) rfl rfl w_905 rfl d_Mo_effect_156 c35 c36 ?_
                  refine x_iload hM d_Mo_effect_159 0 rfl ?_
                  refine x_iconst (v := 2) hM d_Mo_effect_161 (by decide) ?_
                  refine x_iadd hM d_Mo_effect_162 ?_
                  refine x_iload hM d_Mo_effect_163 7 rfl ?_
                  obtain ⟨c33, F⟩ := F
                  obtain ⟨c34, F⟩ := F
                  replace F := F _ rfl
                  refine x_iastore hG hM d_Mo_effect_165 c33 c34 ?_
                  refine x_aload_n hM d_Mo_effect_166 rfl 2 rfl ?_
                  obtain ⟨c31, F⟩ := F
                  obtain ⟨c32, F⟩ := F
                  refine x_getr hG hM ck_Mo 7 (Nat.le_of_ble_eq_true rfl) rfl rfl w_904 rfl d_Mo_effect_167 c31 c32 ?_
                  refine x_iload hM d_Mo_effect_170 1 rfl ?_
                  refine x_dup2 hM d_Mo_effect_172 rfl rfl ?_
                  obtain ⟨c29, F⟩ := F
                  obtain ⟨c30, F⟩ := F
                  refine x_iaload hG hM d_Mo_effect_173 c29 c30 ?_
                  refine x_iconst (v := 1) hM d_Mo_effect_174 (by decide) ?_
                  refine x_iadd hM d_Mo_effect_175 ?_
                  obtain ⟨c27, F⟩ := F
                  obtain ⟨c28, F⟩ := F
                  replace F := F _ rfl
                  refine x_iastore hG hM d_Mo_effect_176 c27 c28 ?_
                  refine x_aload_n hM d_Mo_effect_177 rfl 2 rfl ?_
                  obtain ⟨c26, F⟩ := F
                  refine x_callV hG hM (r' := r_Mo_forget) (ci := 11) [] rfl rfl (Nat.le_of_ble_eq_true rfl) yk_Mo_forget ⟨Nat.le_of_ble_eq_true rfl, Nat.le_of_ble_eq_true rfl⟩ w_893 w_895 ws_Mo_forget rfl rfl (Nat.le_of_ble_eq_true rfl) d_Mo_effect_178 c26 (sem_mono F ?_)
                  intro u21 h20 F
                  obtain ⟨rfl, F⟩ := F
                  refine x_aload_n hM d_Mo_effect_181 rfl 2 rfl ?_
                  obtain ⟨c24, F⟩ := F
                  obtain ⟨c25, F⟩ := F
                  refine x_getr hG hM ck_Mo 7 (Nat.le_of_ble_eq_true rfl) rfl rfl w_904 rfl d_Mo_effect_182 c24 c25 ?_
                  refine x_iload hM d_Mo_effect_185 1 rfl ?_
                  obtain ⟨c22, F⟩ := F
                  obtain ⟨c23, F⟩ := F
                  refine x_iaload hG hM d_Mo_effect_187 c22 c23 ?_
                  exact x_ireturn hM d_Mo_effect_188 rfl F
                · replace F := F.1 q49
                  refine x_bipush (v := (-3)) hM d_Mo_effect_116 (by decide) ?_
                  exact x_ireturn hM d_Mo_effect_118 rfl F
              · replace F := F.1 q54
                refine x_bipush (v := (-2)) hM d_Mo_effect_95 (by decide) ?_
                exact x_ireturn hM d_Mo_effect_97 rfl F
            · replace F := F.1 q98
              refine x_aload_n hM d_Mo_effect_73 rfl 0 rfl ?_
              refine x_iload hM d_Mo_effect_74 5 rfl ?_
              obtain ⟨c97, F⟩ := F
              refine x_callV hG hM (r' := r_Mo_isThing) (ci := 11) [.int v5] rfl rfl (Nat.le_of_ble_eq_true rfl) yk_Mo_isThing ⟨Nat.le_of_ble_eq_true rfl, Nat.le_of_ble_eq_true rfl⟩ w_1052 w_1054 ws_Mo_isThing rfl rfl (Nat.le_of_ble_eq_true rfl) d_Mo_effect_76 c97 (sem_mono F ?_)
              intro u56 h55 F
              obtain ⟨x57, rfl, F⟩ := F
              refine x_if_ne (tgt := 98) hM d_Mo_effect_79 (by decide) (fun q96 => ?_) (fun q96 => ?_)
              · replace F := F.2 q96
                refine x_iconst (v := 3) hM d_Mo_effect_98 (by decide) ?_
                refine x_iload_n hM d_Mo_effect_99 rfl 1 rfl ?_
                refine x_imul hM d_Mo_effect_100 ?_
                refine x_iload_n hM d_Mo_effect_101 rfl 2 rfl ?_
                refine x_iadd hM d_Mo_effect_102 ?_
                refine x_istore (lv2 := [(6, .int ((3 * v1) + v2)), (0, .ref v0), (1, .int v1), (2, .int v2), (3, .int v3), (4, .int v4), (5, .int v5)]) hM d_Mo_effect_103 (Nat.le_of_ble_eq_true rfl) rfl ?_
                refine x_aload_n hM d_Mo_effect_105 rfl 1 rfl ?_
                obtain ⟨c94, F⟩ := F
                obtain ⟨c95, F⟩ := F
                refine x_getr hG hM ck_Mo 7 (Nat.le_of_ble_eq_true rfl) rfl rfl w_904 rfl d_Mo_effect_106 c94 c95 ?_
                refine x_iload hM d_Mo_effect_109 0 rfl ?_
                obtain ⟨c92, F⟩ := F
                obtain ⟨c93, F⟩ := F
                refine x_iaload hG hM d_Mo_effect_111 c92 c93 ?_
                refine x_iconst (v := 4) hM d_Mo_effect_112 (by decide) ?_
                refine x_icmp_ne (tgt := 119) hM d_Mo_effect_113 (by decide) (fun q91 => ?_) (fun q91 => ?_)
                · replace F := F.2 q91
                  refine x_bipush (v := 12) hM d_Mo_effect_119 (by decide) ?_
                  refine x_iload hM d_Mo_effect_121 0 rfl ?_
                  refine x_imul hM d_Mo_effect_123 ?_
                  refine x_iconst (v := 3) hM d_Mo_effect_124 (by decide) ?_
                  refine x_aload_n hM d_Mo_effect_125 rfl 1 rfl ?_
                  obtain ⟨c89, F⟩ := F
                  obtain ⟨c90, F⟩ := F
                  refine x_getr hG hM ck_Mo 7 (Nat.le_of_ble_eq_true rfl) rfl rfl w_904 rfl d_Mo_effect_126 c89 c90 ?_
                  refine x_iload hM d_Mo_effect_129 0 rfl ?_
                  obtain ⟨c87, F⟩ := F
                  obtain ⟨c88, F⟩ := F
                  refine x_iaload hG hM d_Mo_effect_131 c87 c88 ?_
                  refine x_imul hM d_Mo_effect_132 ?_
                  refine x_iadd hM d_Mo_effect_133 ?_
                  refine x_istore (lv2 := [(7, .int ((12 * ((3 * v1) + v2)) + (3 * (kI h55 (rf h55 v0 7) (Int32.toNatClampNeg ((3 * v1) + v2)))))), (6, .int ((3 * v1) + v2)), (0, .ref v0), (1, .int v1), (2, .int v2), (3, .int v3), (4, .int v4), (5, .int v5)]) hM d_Mo_effect_134 (Nat.le_of_ble_eq_true rfl) rfl ?_
                  refine x_aload_n hM d_Mo_effect_136 rfl 2 rfl ?_
                  obtain ⟨c85, F⟩ := F
                  obtain ⟨c86, F⟩ := F
                  refine x_getr hG hM ck_Mo 8 (Nat.le_of_ble_eq_true rfl) rfl rfl w_905 rfl d_Mo_effect_137 c85 c86 ?_
                  refine x_iload hM d_Mo_effect_140 0 rfl ?_
                  refine x_iload_n hM d_Mo_effect_142 rfl 5 rfl ?_
                  obtain ⟨c83, F⟩ := F
                  obtain ⟨c84, F⟩ := F
                  replace F := F _ rfl
                  refine x_iastore hG hM d_Mo_effect_143 c83 c84 ?_
                  refine x_aload_n hM d_Mo_effect_144 rfl 2 rfl ?_
                  obtain ⟨c81, F⟩ := F
                  obtain ⟨c82, F⟩ := F
                  refine x_getr hG hM ck_Mo 8 (Nat.le_of_ble_eq_true rfl) rfl rfl w_905 rfl d_Mo_effect_145 c81 c82 ?_
                  refine x_iload hM d_Mo_effect_148 0 rfl ?_
                  refine x_iconst (v := 1) hM d_Mo_effect_150 (by decide) ?_
                  refine x_iadd hM d_Mo_effect_151 ?_
                  refine x_iload hM d_Mo_effect_152 6 rfl ?_
                  obtain ⟨c79, F⟩ := F
                  obtain ⟨c80, F⟩ := F
                  replace F := F _ rfl
                  refine x_iastore hG hM d_Mo_effect_154 c79 c80 ?_
                  refine x_aload_n hM d_Mo_effect_155 rfl 2 rfl ?_
                  obtain ⟨c77, F⟩ := F
                  obtain ⟨c78, F⟩ := F
                  refine x_getr hG hM ck_Mo 8 (Nat.le_of_ble_eq_true rfl) rfl rfl w_905 rfl d_Mo_effect_156 c77 c78 ?_
                  refine x_iload hM d_Mo_effect_159 0 rfl ?_
                  refine x_iconst (v := 2) hM d_Mo_effect_161 (by decide) ?_
                  refine x_iadd hM d_Mo_effect_162 ?_
                  refine x_iload hM d_Mo_effect_163 7 rfl ?_
                  obtain ⟨c75, F⟩ := F
                  obtain ⟨c76, F⟩ := F
                  replace F := F _ rfl
                  refine x_iastore hG hM d_Mo_effect_165 c75 c76 ?_
                  refine x_aload_n hM d_Mo_effect_166 rfl 2 rfl ?_
                  obtain ⟨c73, F⟩ := F
                  obtain ⟨c74, F⟩ := F
                  refine x_getr hG hM ck_Mo 7 (Nat.le_of_ble_eq_true rfl) rfl rfl w_904 rfl d_Mo_effect_167 c73 c74 ?_
                  refine x_iload hM d_Mo_effect_170 1 rfl ?_
                  refine x_dup2 hM d_Mo_effect_172 rfl rfl ?_
                  obtain ⟨c71, F⟩ := F
                  obtain ⟨c72, F⟩ := F
                  refine x_iaload hG hM d_Mo_effect_173 c71 c72 ?_
                  refine x_iconst (v := 1) hM d_Mo_effect_174 (by decide) ?_
                  refine x_iadd hM d_Mo_effect_175 ?_
                  obtain ⟨c69, F⟩ := F
                  obtain ⟨c70, F⟩ := F
                  replace F := F _ rfl
                  refine x_iastore hG hM d_Mo_effect_176 c69 c70 ?_
                  refine x_aload_n hM d_Mo_effect_177 rfl 2 rfl ?_
                  obtain ⟨c68, F⟩ := F
                  refine x_callV hG hM (r' := r_Mo_forget) (ci := 11) [] rfl rfl (Nat.le_of_ble_eq_true rfl) yk_Mo_forget ⟨Nat.le_of_ble_eq_true rfl, Nat.le_of_ble_eq_true rfl⟩ w_893 w_895 ws_Mo_forget rfl rfl (Nat.le_of_ble_eq_true rfl) d_Mo_effect_178 c68 (sem_mono F ?_)
                  intro u63 h62 F
                  obtain ⟨rfl, F⟩ := F
                  refine x_aload_n hM d_Mo_effect_181 rfl 2 rfl ?_
                  obtain ⟨c66, F⟩ := F
                  obtain ⟨c67, F⟩ := F
                  refine x_getr hG hM ck_Mo 7 (Nat.le_of_ble_eq_true rfl) rfl rfl w_904 rfl d_Mo_effect_182 c66 c67 ?_
                  refine x_iload hM d_Mo_effect_185 1 rfl ?_
                  obtain ⟨c64, F⟩ := F
                  obtain ⟨c65, F⟩ := F
                  refine x_iaload hG hM d_Mo_effect_187 c64 c65 ?_
                  exact x_ireturn hM d_Mo_effect_188 rfl F
                · replace F := F.1 q91
                  refine x_bipush (v := (-3)) hM d_Mo_effect_116 (by decide) ?_
                  exact x_ireturn hM d_Mo_effect_118 rfl F
              · replace F := F.1 q96
                refine x_goto (tgt := 95) hM d_Mo_effect_82 (by decide) ?_
                refine x_bipush (v := (-2)) hM d_Mo_effect_95 (by decide) ?_
                exact x_ireturn hM d_Mo_effect_97 rfl F
          · replace F := F.1 q145
            refine x_iload hM d_Mo_effect_47 5 rfl ?_
            refine x_iconst (v := 0) hM d_Mo_effect_49 (by decide) ?_
            refine x_aload_n hM d_Mo_effect_50 rfl 0 rfl ?_
            obtain ⟨c143, F⟩ := F
            obtain ⟨c144, F⟩ := F
            refine x_getr hG hM ck_Mo 1 (Nat.le_of_ble_eq_true rfl) rfl rfl w_898 rfl d_Mo_effect_51 c143 c144 ?_
            refine x_iload_n hM d_Mo_effect_54 rfl 3 rfl ?_
            obtain ⟨c141, F⟩ := F
            obtain ⟨c142, F⟩ := F
            refine x_iaload hG hM d_Mo_effect_55 c141 c142 ?_
            refine x_iconst (v := 1) hM d_Mo_effect_56 (by decide) ?_
            refine x_isub hM d_Mo_effect_57 ?_
            refine x_callS hG hM (r' := r_Mo_isIn) [.int v5, .int 0, .int ((kI h10 (rf h10 v0 1) (Int32.toNatClampNeg v3)) - 1)] rfl yk_Mo_isIn ⟨Nat.le_of_ble_eq_true rfl, Nat.le_of_ble_eq_true rfl⟩ w_1017 w_1018 rfl rfl (Nat.le_of_ble_eq_true rfl) d_Mo_effect_58 (sem_mono F ?_)
            intro u100 h99 F
            obtain ⟨x101, rfl, F⟩ := F
            refine x_if_ne (tgt := 98) hM d_Mo_effect_61 (by decide) (fun q140 => ?_) (fun q140 => ?_)
            · replace F := F.2 q140
              refine x_iconst (v := 3) hM d_Mo_effect_98 (by decide) ?_
              refine x_iload_n hM d_Mo_effect_99 rfl 1 rfl ?_
              refine x_imul hM d_Mo_effect_100 ?_
              refine x_iload_n hM d_Mo_effect_101 rfl 2 rfl ?_
              refine x_iadd hM d_Mo_effect_102 ?_
              refine x_istore (lv2 := [(6, .int ((3 * v1) + v2)), (0, .ref v0), (1, .int v1), (2, .int v2), (3, .int v3), (4, .int v4), (5, .int v5)]) hM d_Mo_effect_103 (Nat.le_of_ble_eq_true rfl) rfl ?_
              refine x_aload_n hM d_Mo_effect_105 rfl 1 rfl ?_
              obtain ⟨c138, F⟩ := F
              obtain ⟨c139, F⟩ := F
              refine x_getr hG hM ck_Mo 7 (Nat.le_of_ble_eq_true rfl) rfl rfl w_904 rfl d_Mo_effect_106 c138 c139 ?_
              refine x_iload hM d_Mo_effect_109 0 rfl ?_
              obtain ⟨c136, F⟩ := F
              obtain ⟨c137, F⟩ := F
              refine x_iaload hG hM d_Mo_effect_111 c136 c137 ?_
              refine x_iconst (v := 4) hM d_Mo_effect_112 (by decide) ?_
              refine x_icmp_ne (tgt := 119) hM d_Mo_effect_113 (by decide) (fun q135 => ?_) (fun q135 => ?_)
              · replace F := F.2 q135
                refine x_bipush (v := 12) hM d_Mo_effect_119 (by decide) ?_
                refine x_iload hM d_Mo_effect_121 0 rfl ?_
                refine x_imul hM d_Mo_effect_123 ?_
                refine x_iconst (v := 3) hM d_Mo_effect_124 (by decide) ?_
                refine x_aload_n hM d_Mo_effect_125 rfl 1 rfl ?_
                obtain ⟨c133, F⟩ := F
                obtain ⟨c134, F⟩ := F
                refine x_getr hG hM ck_Mo 7 (Nat.le_of_ble_eq_true rfl) rfl rfl w_904 rfl d_Mo_effect_126 c133 c134 ?_
                refine x_iload hM d_Mo_effect_129 0 rfl ?_
                obtain ⟨c131, F⟩ := F
                obtain ⟨c132, F⟩ := F
                refine x_iaload hG hM d_Mo_effect_131 c131 c132 ?_
                refine x_imul hM d_Mo_effect_132 ?_
                refine x_iadd hM d_Mo_effect_133 ?_
                refine x_istore (lv2 := [(7, .int ((12 * ((3 * v1) + v2)) + (3 * (kI h99 (rf h99 v0 7) (Int32.toNatClampNeg ((3 * v1) + v2)))))), (6, .int ((3 * v1) + v2)), (0, .ref v0), (1, .int v1), (2, .int v2), (3, .int v3), (4, .int v4), (5, .int v5)]) hM d_Mo_effect_134 (Nat.le_of_ble_eq_true rfl) rfl ?_
                refine x_aload_n hM d_Mo_effect_136 rfl 2 rfl ?_
                obtain ⟨c129, F⟩ := F
                obtain ⟨c130, F⟩ := F
                refine x_getr hG hM ck_Mo 8 (Nat.le_of_ble_eq_true rfl) rfl rfl w_905 rfl d_Mo_effect_137 c129 c130 ?_
                refine x_iload hM d_Mo_effect_140 0 rfl ?_
                refine x_iload_n hM d_Mo_effect_142 rfl 5 rfl ?_
                obtain ⟨c127, F⟩ := F
                obtain ⟨c128, F⟩ := F
                replace F := F _ rfl
                refine x_iastore hG hM d_Mo_effect_143 c127 c128 ?_
                refine x_aload_n hM d_Mo_effect_144 rfl 2 rfl ?_
                obtain ⟨c125, F⟩ := F
                obtain ⟨c126, F⟩ := F
                refine x_getr hG hM ck_Mo 8 (Nat.le_of_ble_eq_true rfl) rfl rfl w_905 rfl d_Mo_effect_145 c125 c126 ?_
                refine x_iload hM d_Mo_effect_148 0 rfl ?_
                refine x_iconst (v := 1) hM d_Mo_effect_150 (by decide) ?_
                refine x_iadd hM d_Mo_effect_151 ?_
                refine x_iload hM d_Mo_effect_152 6 rfl ?_
                obtain ⟨c123, F⟩ := F
                obtain ⟨c124, F⟩ := F
                replace F := F _ rfl
                refine x_iastore hG hM d_Mo_effect_154 c123 c124 ?_
                refine x_aload_n hM d_Mo_effect_155 rfl 2 rfl ?_
                obtain ⟨c121, F⟩ := F
                obtain ⟨c122, F⟩ := F
                refine x_getr hG hM ck_Mo 8 (Nat.le_of_ble_eq_true rfl) rfl rfl w_905 rfl d_Mo_effect_156 c121 c122 ?_
                refine x_iload hM d_Mo_effect_159 0 rfl ?_
                refine x_iconst (v := 2) hM d_Mo_effect_161 (by decide) ?_
                refine x_iadd hM d_Mo_effect_162 ?_
                refine x_iload hM d_Mo_effect_163 7 rfl ?_
                obtain ⟨c119, F⟩ := F
                obtain ⟨c120, F⟩ := F
                replace F := F _ rfl
                refine x_iastore hG hM d_Mo_effect_165 c119 c120 ?_
                refine x_aload_n hM d_Mo_effect_166 rfl 2 rfl ?_
                obtain ⟨c117, F⟩ := F
                obtain ⟨c118, F⟩ := F
                refine x_getr hG hM ck_Mo 7 (Nat.le_of_ble_eq_true rfl) rfl rfl w_904 rfl d_Mo_effect_167 c117 c118 ?_
                refine x_iload hM d_Mo_effect_170 1 rfl ?_
                refine x_dup2 hM d_Mo_effect_172 rfl rfl ?_
                obtain ⟨c115, F⟩ := F
                obtain ⟨c116, F⟩ := F
                refine x_iaload hG hM d_Mo_effect_173 c115 c116 ?_
                refine x_iconst (v := 1) hM d_Mo_effect_174 (by decide) ?_
                refine x_iadd hM d_Mo_effect_175 ?_
                obtain ⟨c113, F⟩ := F
                obtain ⟨c114, F⟩ := F
                replace F := F _ rfl
                refine x_iastore hG hM d_Mo_effect_176 c113 c114 ?_
                refine x_aload_n hM d_Mo_effect_177 rfl 2 rfl ?_
                obtain ⟨c112, F⟩ := F
                refine x_callV hG hM (r' := r_Mo_forget) (ci := 11) [] rfl rfl (Nat.le_of_ble_eq_true rfl) yk_Mo_forget ⟨Nat.le_of_ble_eq_true rfl, Nat.le_of_ble_eq_true rfl⟩ w_893 w_895 ws_Mo_forget rfl rfl (Nat.le_of_ble_eq_true rfl) d_Mo_effect_178 c112 (sem_mono F ?_)
                intro u107 h106 F
                obtain ⟨rfl, F⟩ := F
                refine x_aload_n hM d_Mo_effect_181 rfl 2 rfl ?_
                obtain ⟨c110, F⟩ := F
                obtain ⟨c111, F⟩ := F
                refine x_getr hG hM ck_Mo 7 (Nat.le_of_ble_eq_true rfl) rfl rfl w_904 rfl d_Mo_effect_182 c110 c111 ?_
                refine x_iload hM d_Mo_effect_185 1 rfl ?_
                obtain ⟨c108, F⟩ := F
                obtain ⟨c109, F⟩ := F
                refine x_iaload hG hM d_Mo_effect_187 c108 c109 ?_
                exact x_ireturn hM d_Mo_effect_188 rfl F
              · replace F := F.1 q135
                refine x_bipush (v := (-3)) hM d_Mo_effect_116 (by decide) ?_
                exact x_ireturn hM d_Mo_effect_118 rfl F
            · replace F := F.1 q140
              refine x_goto (tgt := 95) hM d_Mo_effect_64 (by decide) ?_
              refine x_bipush (v := (-2)) hM d_Mo_effect_95 (by decide) ?_
              exact x_ireturn hM d_Mo_effect_97 rfl F
set_option maxRecDepth 100000 in
set_option maxHeartbeats 4000000 in
theorem S_Mo_unact_0 {G : Gc} {M : Mc} {Q : State → Prop} {K : Option Value → Hp → Prop} (hG : gok G) (hM : mok G M r_Mo_unact Q K) (v0 : Nat) (h : Hp) (F : kT h v0 = 12 ∧ (((kI h v0 3) = 0 → K (some (.int (-1))) h) ∧ (¬ (kI h v0 3) = 0 → (kT h v0 = 12 ∧ (kT h v0 = 12 ∧ (∀ h1 : Hp, h1 = wI h v0 3 ((kI h v0 3) - 1) → (kT h1 v0 = 12 ∧ sem G r_Mo_forget [.ref v0] h1 (fun u3 h2 => u3 = none ∧ (kT h2 v0 = 12 ∧ K (some (.int (kI h2 v0 3))) h2))))))))) : X G M Q 0 [(0, .ref v0)] [] h := by
  refine x_aload_n hM d_Mo_unact_0 rfl 0 rfl ?_
  obtain ⟨c9, F⟩ := F
  refine x_geti hG hM ck_Mo 3 (Nat.le_of_ble_eq_true rfl) rfl rfl w_900 rfl d_Mo_unact_1 c9 ?_
  refine x_if_ne (tgt := 9) hM d_Mo_unact_4 (by decide) (fun q8 => ?_) (fun q8 => ?_)
  · replace F := F.2 q8
    refine x_aload_n hM d_Mo_unact_9 rfl 0 rfl ?_
    refine x_dup hM d_Mo_unact_10 rfl ?_
    obtain ⟨c7, F⟩ := F
    refine x_geti hG hM ck_Mo 3 (Nat.le_of_ble_eq_true rfl) rfl rfl w_900 rfl d_Mo_unact_11 c7 ?_
    refine x_iconst (v := 1) hM d_Mo_unact_14 (by decide) ?_
    refine x_isub hM d_Mo_unact_15 ?_
    obtain ⟨c6, F⟩ := F
    replace F := F _ rfl
    refine x_puti hG hM ck_Mo 3 (Nat.le_of_ble_eq_true rfl) rfl rfl w_900 rfl d_Mo_unact_16 (Or.inl rfl) c6 ?_
    refine x_aload_n hM d_Mo_unact_19 rfl 0 rfl ?_
    obtain ⟨c5, F⟩ := F
    refine x_callV hG hM (r' := r_Mo_forget) (ci := 11) [] rfl rfl (Nat.le_of_ble_eq_true rfl) yk_Mo_forget ⟨Nat.le_of_ble_eq_true rfl, Nat.le_of_ble_eq_true rfl⟩ w_893 w_895 ws_Mo_forget rfl rfl (Nat.le_of_ble_eq_true rfl) d_Mo_unact_20 c5 (sem_mono F ?_)
    intro u3 h2 F
    obtain ⟨rfl, F⟩ := F
    refine x_aload_n hM d_Mo_unact_23 rfl 0 rfl ?_
    obtain ⟨c4, F⟩ := F
    refine x_geti hG hM ck_Mo 3 (Nat.le_of_ble_eq_true rfl) rfl rfl w_900 rfl d_Mo_unact_24 c4 ?_
    exact x_ireturn hM d_Mo_unact_27 rfl F
  · replace F := F.1 q8
    refine x_iconst (v := (-1)) hM d_Mo_unact_7 (by decide) ?_
    exact x_ireturn hM d_Mo_unact_8 rfl F
set_option maxRecDepth 100000 in
set_option maxHeartbeats 4000000 in
theorem S_Mo_cover_0 {G : Gc} {M : Mc} {Q : State → Prop} {K : Option Value → Hp → Prop} (hG : gok G) (hM : mok G M r_Mo_cover Q K) (v0 : Nat) (h : Hp) (F : kT h v0 = 12 ∧ (((kI h v0 9) = 6 → K (some (.int (-3))) h) ∧ (¬ (kI h v0 9) = 6 → (kT h v0 = 12 ∧ kR h v0 5 = some (rf h v0 5) ∧ (kT h v0 = 12 ∧ (kT h (rf h v0 5) = 50 ∧ vp_in (13 + (kI h v0 9)) (kN h (rf h v0 5)) ∧ (∀ h1 : Hp, h1 = wI h (rf h v0 5) (Int32.toNatClampNeg (13 + (kI h v0 9))) 0 → (kT h1 v0 = 12 ∧ (kT h1 v0 = 12 ∧ (∀ h2 : Hp, h2 = wI h1 v0 9 ((kI h1 v0 9) + 1) → (kT h2 v0 = 12 ∧ K (some (.int ((kI h2 v0 9) - 1))) h2))))))))))) : X G M Q 0 [(0, .ref v0)] [] h := by
  refine x_aload_n hM d_Mo_cover_0 rfl 0 rfl ?_
  obtain ⟨c12, F⟩ := F
  refine x_geti hG hM ck_Mo 9 (Nat.le_of_ble_eq_true rfl) rfl rfl w_906 rfl d_Mo_cover_1 c12 ?_
  refine x_bipush (v := 6) hM d_Mo_cover_4 (by decide) ?_
  refine x_icmp_ne (tgt := 12) hM d_Mo_cover_6 (by decide) (fun q11 => ?_) (fun q11 => ?_)
  · replace F := F.2 q11
    refine x_aload_n hM d_Mo_cover_12 rfl 0 rfl ?_
    obtain ⟨c9, F⟩ := F
    obtain ⟨c10, F⟩ := F
    refine x_getr hG hM ck_Mo 5 (Nat.le_of_ble_eq_true rfl) rfl rfl w_902 rfl d_Mo_cover_13 c9 c10 ?_
    refine x_bipush (v := 13) hM d_Mo_cover_16 (by decide) ?_
    refine x_aload_n hM d_Mo_cover_18 rfl 0 rfl ?_
    obtain ⟨c8, F⟩ := F
    refine x_geti hG hM ck_Mo 9 (Nat.le_of_ble_eq_true rfl) rfl rfl w_906 rfl d_Mo_cover_19 c8 ?_
    refine x_iadd hM d_Mo_cover_22 ?_
    refine x_iconst (v := 0) hM d_Mo_cover_23 (by decide) ?_
    obtain ⟨c6, F⟩ := F
    obtain ⟨c7, F⟩ := F
    replace F := F _ rfl
    refine x_iastore hG hM d_Mo_cover_24 c6 c7 ?_
    refine x_aload_n hM d_Mo_cover_25 rfl 0 rfl ?_
    refine x_dup hM d_Mo_cover_26 rfl ?_
    obtain ⟨c5, F⟩ := F
    refine x_geti hG hM ck_Mo 9 (Nat.le_of_ble_eq_true rfl) rfl rfl w_906 rfl d_Mo_cover_27 c5 ?_
    refine x_iconst (v := 1) hM d_Mo_cover_30 (by decide) ?_
    refine x_iadd hM d_Mo_cover_31 ?_
    obtain ⟨c4, F⟩ := F
    replace F := F _ rfl
    refine x_puti hG hM ck_Mo 9 (Nat.le_of_ble_eq_true rfl) rfl rfl w_906 rfl d_Mo_cover_32 (Or.inl rfl) c4 ?_
    refine x_aload_n hM d_Mo_cover_35 rfl 0 rfl ?_
    obtain ⟨c3, F⟩ := F
    refine x_geti hG hM ck_Mo 9 (Nat.le_of_ble_eq_true rfl) rfl rfl w_906 rfl d_Mo_cover_36 c3 ?_
    refine x_iconst (v := 1) hM d_Mo_cover_39 (by decide) ?_
    refine x_isub hM d_Mo_cover_40 ?_
    exact x_ireturn hM d_Mo_cover_41 rfl F
  · replace F := F.1 q11
    refine x_bipush (v := (-3)) hM d_Mo_cover_9 (by decide) ?_
    exact x_ireturn hM d_Mo_cover_11 rfl F
set_option maxRecDepth 100000 in
set_option maxHeartbeats 4000000 in
theorem S_Mo_part_0 {G : Gc} {M : Mc} {Q : State → Prop} {K : Option Value → Hp → Prop} (hG : gok G) (hM : mok G M r_Mo_part Q K) (v0 : Nat) (v1 : Int32) (v2 : Int32) (v3 : Int32) (v4 : Int32) (h : Hp) (F : kT h v0 = 12 ∧ (sem G r_Mo_isIn [.int v1, .int 0, .int ((kI h v0 9) - 1)] h (fun u2 h1 => ∃ x3 : Int32, u2 = some (.int x3) ∧ ((x3 = 0 → K (some (.int (-2))) h1) ∧ (¬ x3 = 0 → (kT h1 v0 = 12 ∧ sem G r_Mo_isCondition [.ref v0, .int v2, .int v3, .int v4] h1 (fun u5 h4 => ∃ x6 : Int32, u5 = some (.int x6) ∧ ((x6 = 0 → K (some (.int (-2))) h4) ∧ (¬ x6 = 0 → (kT h4 v0 = 12 ∧ sem G r_Mo_more [.ref v0, .int (13 + v1), .int v2, .int v3, .int v4] h4 (fun u8 h7 => ∃ x9 : Int32, u8 = some (.int x9) ∧ K (some (.int x9)) h7))))))))))) : X G M Q 0 [(0, .ref v0), (1, .int v1), (2, .int v2), (3, .int v3), (4, .int v4)] [] h := by
  refine x_iload_n hM d_Mo_part_0 rfl 1 rfl ?_
  refine x_iconst (v := 0) hM d_Mo_part_1 (by decide) ?_
  refine x_aload_n hM d_Mo_part_2 rfl 0 rfl ?_
  obtain ⟨c14, F⟩ := F
  refine x_geti hG hM ck_Mo 9 (Nat.le_of_ble_eq_true rfl) rfl rfl w_906 rfl d_Mo_part_3 c14 ?_
  refine x_iconst (v := 1) hM d_Mo_part_6 (by decide) ?_
  refine x_isub hM d_Mo_part_7 ?_
  refine x_callS hG hM (r' := r_Mo_isIn) [.int v1, .int 0, .int ((kI h v0 9) - 1)] rfl yk_Mo_isIn ⟨Nat.le_of_ble_eq_true rfl, Nat.le_of_ble_eq_true rfl⟩ w_1017 w_1018 rfl rfl (Nat.le_of_ble_eq_true rfl) d_Mo_part_8 (sem_mono F ?_)
  intro u2 h1 F
  obtain ⟨x3, rfl, F⟩ := F
  refine x_if_eq (tgt := 40) hM d_Mo_part_11 (by decide) (fun q13 => ?_) (fun q13 => ?_)
  · replace F := F.1 q13
    refine x_bipush (v := (-2)) hM d_Mo_part_40 (by decide) ?_
    exact x_ireturn hM d_Mo_part_42 rfl F
  · replace F := F.2 q13
    refine x_aload_n hM d_Mo_part_14 rfl 0 rfl ?_
    refine x_iload_n hM d_Mo_part_15 rfl 2 rfl ?_
    refine x_iload_n hM d_Mo_part_16 rfl 3 rfl ?_
    refine x_iload hM d_Mo_part_17 4 rfl ?_
    obtain ⟨c12, F⟩ := F
    refine x_callV hG hM (r' := r_Mo_isCondition) (ci := 11) [.int v2, .int v3, .int v4] rfl rfl (Nat.le_of_ble_eq_true rfl) yk_Mo_isCondition ⟨Nat.le_of_ble_eq_true rfl, Nat.le_of_ble_eq_true rfl⟩ w_1048 w_1050 ws_Mo_isCondition rfl rfl (Nat.le_of_ble_eq_true rfl) d_Mo_part_19 c12 (sem_mono F ?_)
    intro u5 h4 F
    obtain ⟨x6, rfl, F⟩ := F
    refine x_if_eq (tgt := 40) hM d_Mo_part_22 (by decide) (fun q11 => ?_) (fun q11 => ?_)
    · replace F := F.1 q11
      refine x_bipush (v := (-2)) hM d_Mo_part_40 (by decide) ?_
      exact x_ireturn hM d_Mo_part_42 rfl F
    · replace F := F.2 q11
      refine x_aload_n hM d_Mo_part_25 rfl 0 rfl ?_
      refine x_bipush (v := 13) hM d_Mo_part_26 (by decide) ?_
      refine x_iload_n hM d_Mo_part_28 rfl 1 rfl ?_
      refine x_iadd hM d_Mo_part_29 ?_
      refine x_iload_n hM d_Mo_part_30 rfl 2 rfl ?_
      refine x_iload_n hM d_Mo_part_31 rfl 3 rfl ?_
      refine x_iload hM d_Mo_part_32 4 rfl ?_
      obtain ⟨c10, F⟩ := F
      refine x_callV hG hM (r' := r_Mo_more) (ci := 11) [.int (13 + v1), .int v2, .int v3, .int v4] rfl rfl (Nat.le_of_ble_eq_true rfl) yk_Mo_more ⟨Nat.le_of_ble_eq_true rfl, Nat.le_of_ble_eq_true rfl⟩ w_1056 w_1058 ws_Mo_more rfl rfl (Nat.le_of_ble_eq_true rfl) d_Mo_part_34 c10 (sem_mono F ?_)
      intro u8 h7 F
      obtain ⟨x9, rfl, F⟩ := F
      refine x_goto (tgt := 42) hM d_Mo_part_37 (by decide) ?_
      exact x_ireturn hM d_Mo_part_42 rfl F
set_option maxRecDepth 100000 in
set_option maxHeartbeats 4000000 in
theorem S_Mo_bare_0 {G : Gc} {M : Mc} {Q : State → Prop} {K : Option Value → Hp → Prop} (hG : gok G) (hM : mok G M r_Mo_bare Q K) (v0 : Nat) (h : Hp) (F : kT h v0 = 12 ∧ (kT h v0 = 12 ∧ (∀ h1 : Hp, h1 = wI h v0 9 0 → K (some (.int (kI h v0 9))) h1))) : X G M Q 0 [(0, .ref v0)] [] h := by
  refine x_aload_n hM d_Mo_bare_0 rfl 0 rfl ?_
  obtain ⟨c3, F⟩ := F
  refine x_geti hG hM ck_Mo 9 (Nat.le_of_ble_eq_true rfl) rfl rfl w_906 rfl d_Mo_bare_1 c3 ?_
  refine x_istore_n (lv2 := [(1, .int (kI h v0 9)), (0, .ref v0)]) hM d_Mo_bare_4 rfl (Nat.le_of_ble_eq_true rfl) rfl ?_
  refine x_aload_n hM d_Mo_bare_5 rfl 1 rfl ?_
  refine x_iconst (v := 0) hM d_Mo_bare_6 (by decide) ?_
  obtain ⟨c2, F⟩ := F
  replace F := F _ rfl
  refine x_puti hG hM ck_Mo 9 (Nat.le_of_ble_eq_true rfl) rfl rfl w_906 rfl d_Mo_bare_7 (Or.inl rfl) c2 ?_
  refine x_iload_n hM d_Mo_bare_10 rfl 0 rfl ?_
  exact x_ireturn hM d_Mo_bare_11 rfl F
set_option maxRecDepth 100000 in
set_option maxHeartbeats 4000000 in
theorem S_Mo_leads_0 {G : Gc} {M : Mc} {Q : State → Prop} {K : Option Value → Hp → Prop} (hG : gok G) (hM : mok G M r_Mo_leads Q K) (v0 : Nat) (v1 : Int32) (v2 : Int32) (v3 : Int32) (h : Hp) (F : kT h v0 = 12 ∧ sem G r_Mo_isState [.ref v0, .int v1] h (fun u2 h1 => ∃ x3 : Int32, u2 = some (.int x3) ∧ ((x3 = 0 → K (some (.int (-2))) h1) ∧ (¬ x3 = 0 → (kT h1 v0 = 12 ∧ sem G r_Mo_isAct [.ref v0, .int v2] h1 (fun u5 h4 => ∃ x6 : Int32, u5 = some (.int x6) ∧ ((x6 = 0 → K (some (.int (-2))) h4) ∧ (¬ x6 = 0 → (kT h4 v0 = 12 ∧ kR h4 v0 4 = some (rf h4 v0 4) ∧ (kT h4 (rf h4 v0 4) = 50 ∧ vp_in v2 (kN h4 (rf h4 v0 4)) ∧ (sem G r_Mo_isIn [.int v3, .int 0, .int ((kI h4 (rf h4 v0 4) (Int32.toNatClampNeg v2)) - 1)] h4 (fun u8 h7 => ∃ x9 : Int32, u8 = some (.int x9) ∧ ((x9 = 0 → K (some (.int (-2))) h7) ∧ (¬ x9 = 0 → (kT h7 v0 = 12 ∧ sem G r_Mo_open [.ref v0, .int v1] h7 (fun u11 h10 => u11 = none ∧ (kT h10 v0 = 12 ∧ sem G r_Mo_hold [.ref v0, .int v2] h10 (fun u13 h12 => ∃ x14 : Int32, u13 = some (.int x14) ∧ ((x14 = 0 → K (some (.int (-1))) h12) ∧ (¬ x14 = 0 → (kT h12 v0 = 12 ∧ sem G r_Mo_goes [.ref v0, .int ((3 * v2) + v3)] h12 (fun u16 h15 => ∃ x17 : Int32, u16 = some (.int x17) ∧ K (some (.int x17)) h15)))))))))))))))))))))) : X G M Q 0 [(0, .ref v0), (1, .int v1), (2, .int v2), (3, .int v3)] [] h := by
  refine x_aload_n hM d_Mo_leads_0 rfl 0 rfl ?_
  refine x_iload_n hM d_Mo_leads_1 rfl 1 rfl ?_
  obtain ⟨c30, F⟩ := F
  refine x_callV hG hM (r' := r_Mo_isState) (ci := 11) [.int v1] rfl rfl (Nat.le_of_ble_eq_true rfl) yk_Mo_isState ⟨Nat.le_of_ble_eq_true rfl, Nat.le_of_ble_eq_true rfl⟩ w_1028 w_1030 ws_Mo_isState rfl rfl (Nat.le_of_ble_eq_true rfl) d_Mo_leads_2 c30 (sem_mono F ?_)
  intro u2 h1 F
  obtain ⟨x3, rfl, F⟩ := F
  refine x_if_eq (tgt := 32) hM d_Mo_leads_5 (by decide) (fun q29 => ?_) (fun q29 => ?_)
  · replace F := F.1 q29
    refine x_bipush (v := (-2)) hM d_Mo_leads_32 (by decide) ?_
    exact x_ireturn hM d_Mo_leads_34 rfl F
  · replace F := F.2 q29
    refine x_aload_n hM d_Mo_leads_8 rfl 0 rfl ?_
    refine x_iload_n hM d_Mo_leads_9 rfl 2 rfl ?_
    obtain ⟨c28, F⟩ := F
    refine x_callV hG hM (r' := r_Mo_isAct) (ci := 11) [.int v2] rfl rfl (Nat.le_of_ble_eq_true rfl) yk_Mo_isAct ⟨Nat.le_of_ble_eq_true rfl, Nat.le_of_ble_eq_true rfl⟩ w_1040 w_1042 ws_Mo_isAct rfl rfl (Nat.le_of_ble_eq_true rfl) d_Mo_leads_10 c28 (sem_mono F ?_)
    intro u5 h4 F
    obtain ⟨x6, rfl, F⟩ := F
    refine x_if_eq (tgt := 32) hM d_Mo_leads_13 (by decide) (fun q27 => ?_) (fun q27 => ?_)
    · replace F := F.1 q27
      refine x_bipush (v := (-2)) hM d_Mo_leads_32 (by decide) ?_
      exact x_ireturn hM d_Mo_leads_34 rfl F
    · replace F := F.2 q27
      refine x_iload_n hM d_Mo_leads_16 rfl 3 rfl ?_
      refine x_iconst (v := 0) hM d_Mo_leads_17 (by decide) ?_
      refine x_aload_n hM d_Mo_leads_18 rfl 0 rfl ?_
      obtain ⟨c25, F⟩ := F
      obtain ⟨c26, F⟩ := F
      refine x_getr hG hM ck_Mo 4 (Nat.le_of_ble_eq_true rfl) rfl rfl w_901 rfl d_Mo_leads_19 c25 c26 ?_
      refine x_iload_n hM d_Mo_leads_22 rfl 2 rfl ?_
      obtain ⟨c23, F⟩ := F
      obtain ⟨c24, F⟩ := F
      refine x_iaload hG hM d_Mo_leads_23 c23 c24 ?_
      refine x_iconst (v := 1) hM d_Mo_leads_24 (by decide) ?_
      refine x_isub hM d_Mo_leads_25 ?_
      refine x_callS hG hM (r' := r_Mo_isIn) [.int v3, .int 0, .int ((kI h4 (rf h4 v0 4) (Int32.toNatClampNeg v2)) - 1)] rfl yk_Mo_isIn ⟨Nat.le_of_ble_eq_true rfl, Nat.le_of_ble_eq_true rfl⟩ w_1017 w_1018 rfl rfl (Nat.le_of_ble_eq_true rfl) d_Mo_leads_26 (sem_mono F ?_)
      intro u8 h7 F
      obtain ⟨x9, rfl, F⟩ := F
      refine x_if_ne (tgt := 35) hM d_Mo_leads_29 (by decide) (fun q22 => ?_) (fun q22 => ?_)
      · replace F := F.2 q22
        refine x_aload_n hM d_Mo_leads_35 rfl 0 rfl ?_
        refine x_iload_n hM d_Mo_leads_36 rfl 1 rfl ?_
        obtain ⟨c21, F⟩ := F
        refine x_callV hG hM (r' := r_Mo_open) (ci := 11) [.int v1] rfl rfl (Nat.le_of_ble_eq_true rfl) yk_Mo_open ⟨Nat.le_of_ble_eq_true rfl, Nat.le_of_ble_eq_true rfl⟩ w_1092 w_1094 ws_Mo_open rfl rfl (Nat.le_of_ble_eq_true rfl) d_Mo_leads_37 c21 (sem_mono F ?_)
        intro u11 h10 F
        obtain ⟨rfl, F⟩ := F
        refine x_aload_n hM d_Mo_leads_40 rfl 0 rfl ?_
        refine x_iload_n hM d_Mo_leads_41 rfl 2 rfl ?_
        obtain ⟨c20, F⟩ := F
        refine x_callV hG hM (r' := r_Mo_hold) (ci := 11) [.int v2] rfl rfl (Nat.le_of_ble_eq_true rfl) yk_Mo_hold ⟨Nat.le_of_ble_eq_true rfl, Nat.le_of_ble_eq_true rfl⟩ w_1096 w_1098 ws_Mo_hold rfl rfl (Nat.le_of_ble_eq_true rfl) d_Mo_leads_42 c20 (sem_mono F ?_)
        intro u13 h12 F
        obtain ⟨x14, rfl, F⟩ := F
        refine x_if_eq (tgt := 60) hM d_Mo_leads_45 (by decide) (fun q19 => ?_) (fun q19 => ?_)
        · replace F := F.1 q19
          refine x_iconst (v := (-1)) hM d_Mo_leads_60 (by decide) ?_
          exact x_ireturn hM d_Mo_leads_61 rfl F
        · replace F := F.2 q19
          refine x_aload_n hM d_Mo_leads_48 rfl 0 rfl ?_
          refine x_iconst (v := 3) hM d_Mo_leads_49 (by decide) ?_
          refine x_iload_n hM d_Mo_leads_50 rfl 2 rfl ?_
          refine x_imul hM d_Mo_leads_51 ?_
          refine x_iload_n hM d_Mo_leads_52 rfl 3 rfl ?_
          refine x_iadd hM d_Mo_leads_53 ?_
          obtain ⟨c18, F⟩ := F
          refine x_callV hG hM (r' := r_Mo_goes) (ci := 11) [.int ((3 * v2) + v3)] rfl rfl (Nat.le_of_ble_eq_true rfl) yk_Mo_goes ⟨Nat.le_of_ble_eq_true rfl, Nat.le_of_ble_eq_true rfl⟩ w_1100 w_1102 ws_Mo_goes rfl rfl (Nat.le_of_ble_eq_true rfl) d_Mo_leads_54 c18 (sem_mono F ?_)
          intro u16 h15 F
          obtain ⟨x17, rfl, F⟩ := F
          refine x_goto (tgt := 61) hM d_Mo_leads_57 (by decide) ?_
          exact x_ireturn hM d_Mo_leads_61 rfl F
      · replace F := F.1 q22
        refine x_bipush (v := (-2)) hM d_Mo_leads_32 (by decide) ?_
        exact x_ireturn hM d_Mo_leads_34 rfl F
set_option maxRecDepth 100000 in
set_option maxHeartbeats 4000000 in
theorem S_Mo_open_0 {G : Gc} {M : Mc} {Q : State → Prop} {K : Option Value → Hp → Prop} (hG : gok G) (hM : mok G M r_Mo_open Q K) (v0 : Nat) (v1 : Int32) (h : Hp) (F : X G M Q 4 [(0, .ref v0), (2, .int v1), (3, .int 0)] [] h) : X G M Q 0 [(0, .ref v0), (1, .int v1)] [] h := by
  refine x_iload_n hM d_Mo_open_0 rfl 1 rfl ?_
  refine x_istore_n (lv2 := [(2, .int v1), (0, .ref v0), (1, .int v1)]) hM d_Mo_open_1 rfl (Nat.le_of_ble_eq_true rfl) rfl ?_
  refine x_iconst (v := 0) hM d_Mo_open_2 (by decide) ?_
  refine x_istore_n (lv2 := [(3, .int 0), (2, .int v1), (0, .ref v0), (1, .int v1)]) hM d_Mo_open_3 rfl (Nat.le_of_ble_eq_true rfl) rfl ?_
  refine x_sub [2, 1, 0] rfl ?_
  exact F
set_option maxRecDepth 100000 in
set_option maxHeartbeats 4000000 in
theorem S_Mo_open_4 {G : Gc} {M : Mc} {Q : State → Prop} {K : Option Value → Hp → Prop} (hG : gok G) (hM : mok G M r_Mo_open Q K) (v0 : Nat) (v2 : Int32) (v3 : Int32) (h : Hp) (F : kT h v0 = 12 ∧ (((kI h v0 0) ≤ v3 → K none h) ∧ (¬ (kI h v0 0) ≤ v3 → (kT h v0 = 12 ∧ kR h v0 10 = some (rf h v0 10) ∧ (kT h v0 = 12 ∧ kR h v0 1 = some (rf h v0 1) ∧ (kT h (rf h v0 1) = 50 ∧ vp_in v3 (kN h (rf h v0 1)) ∧ (¬ (kI h (rf h v0 1) (Int32.toNatClampNeg v3)) = 0 ∧ (kT h (rf h v0 10) = 50 ∧ vp_in v3 (kN h (rf h v0 10)) ∧ (∀ h1 : Hp, h1 = wI h (rf h v0 10) (Int32.toNatClampNeg v3) (v2 - v2 / (kI h (rf h v0 1) (Int32.toNatClampNeg v3)) * (kI h (rf h v0 1) (Int32.toNatClampNeg v3))) → (kT h1 v0 = 12 ∧ kR h1 v0 1 = some (rf h1 v0 1) ∧ (kT h1 (rf h1 v0 1) = 50 ∧ vp_in v3 (kN h1 (rf h1 v0 1)) ∧ (¬ (kI h1 (rf h1 v0 1) (Int32.toNatClampNeg v3)) = 0 ∧ X G M Q 4 [(0, .ref v0), (2, .int (v2 / (kI h1 (rf h1 v0 1) (Int32.toNatClampNeg v3)))), (3, .int (v3 + 1))] [] h1)))))))))))) : X G M Q 4 [(0, .ref v0), (2, .int v2), (3, .int v3)] [] h := by
  refine x_iload_n hM d_Mo_open_4 rfl 2 rfl ?_
  refine x_aload_n hM d_Mo_open_5 rfl 0 rfl ?_
  obtain ⟨c17, F⟩ := F
  refine x_geti hG hM ck_Mo 0 (Nat.le_of_ble_eq_true rfl) rfl rfl w_897 rfl d_Mo_open_6 c17 ?_
  refine x_icmp_ge (tgt := 41) hM d_Mo_open_9 (by decide) (fun q16 => ?_) (fun q16 => ?_)
  · replace F := F.1 q16
    exact x_return hM d_Mo_open_41 rfl F
  · replace F := F.2 q16
    refine x_aload_n hM d_Mo_open_12 rfl 0 rfl ?_
    obtain ⟨c14, F⟩ := F
    obtain ⟨c15, F⟩ := F
    refine x_getr hG hM ck_Mo 10 (Nat.le_of_ble_eq_true rfl) rfl rfl w_907 rfl d_Mo_open_13 c14 c15 ?_
    refine x_iload_n hM d_Mo_open_16 rfl 2 rfl ?_
    refine x_iload_n hM d_Mo_open_17 rfl 1 rfl ?_
    refine x_aload_n hM d_Mo_open_18 rfl 0 rfl ?_
    obtain ⟨c12, F⟩ := F
    obtain ⟨c13, F⟩ := F
    refine x_getr hG hM ck_Mo 1 (Nat.le_of_ble_eq_true rfl) rfl rfl w_898 rfl d_Mo_open_19 c12 c13 ?_
    refine x_iload_n hM d_Mo_open_22 rfl 2 rfl ?_
    obtain ⟨c10, F⟩ := F
    obtain ⟨c11, F⟩ := F
    refine x_iaload hG hM d_Mo_open_23 c10 c11 ?_
    obtain ⟨c9, F⟩ := F
    refine x_irem hM d_Mo_open_24 c9 ?_
    obtain ⟨c7, F⟩ := F
    obtain ⟨c8, F⟩ := F
    replace F := F _ rfl
    refine x_iastore hG hM d_Mo_open_25 c7 c8 ?_
    refine x_iload_n hM d_Mo_open_26 rfl 1 rfl ?_
    refine x_aload_n hM d_Mo_open_27 rfl 0 rfl ?_
    obtain ⟨c5, F⟩ := F
    obtain ⟨c6, F⟩ := F
    refine x_getr hG hM ck_Mo 1 (Nat.le_of_ble_eq_true rfl) rfl rfl w_898 rfl d_Mo_open_28 c5 c6 ?_
    refine x_iload_n hM d_Mo_open_31 rfl 2 rfl ?_
    obtain ⟨c3, F⟩ := F
    obtain ⟨c4, F⟩ := F
    refine x_iaload hG hM d_Mo_open_32 c3 c4 ?_
    obtain ⟨c2, F⟩ := F
    refine x_idiv hM d_Mo_open_33 c2 ?_
    refine x_istore_n (lv2 := [(2, .int (v2 / (kI h1 (rf h1 v0 1) (Int32.toNatClampNeg v3)))), (0, .ref v0), (3, .int v3)]) hM d_Mo_open_34 rfl (Nat.le_of_ble_eq_true rfl) rfl ?_
    refine x_iinc (v := (v3 + 1)) (lv2 := [(3, .int (v3 + 1)), (2, .int (v2 / (kI h1 (rf h1 v0 1) (Int32.toNatClampNeg v3)))), (0, .ref v0)]) hM d_Mo_open_35 (j := 2) rfl rfl (Nat.le_of_ble_eq_true rfl) rfl ?_
    refine x_goto (tgt := 4) hM d_Mo_open_38 (by decide) ?_
    refine x_sub [2, 1, 0] rfl ?_
    exact F
set_option maxRecDepth 100000 in
set_option maxHeartbeats 4000000 in
theorem S_Mo_hold_0 {G : Gc} {M : Mc} {Q : State → Prop} {K : Option Value → Hp → Prop} (hG : gok G) (hM : mok G M r_Mo_hold Q K) (v0 : Nat) (v1 : Int32) (h : Hp) (F : X G M Q 4 [(0, .ref v0), (1, .int v1), (2, .int 1), (3, .int 0)] [] h) : X G M Q 0 [(0, .ref v0), (1, .int v1)] [] h := by
  refine x_iconst (v := 1) hM d_Mo_hold_0 (by decide) ?_
  refine x_istore_n (lv2 := [(2, .int 1), (0, .ref v0), (1, .int v1)]) hM d_Mo_hold_1 rfl (Nat.le_of_ble_eq_true rfl) rfl ?_
  refine x_iconst (v := 0) hM d_Mo_hold_2 (by decide) ?_
  refine x_istore_n (lv2 := [(3, .int 0), (2, .int 1), (0, .ref v0), (1, .int v1)]) hM d_Mo_hold_3 rfl (Nat.le_of_ble_eq_true rfl) rfl ?_
  refine x_sub [2, 3, 1, 0] rfl ?_
  exact F
set_option maxRecDepth 100000 in
set_option maxHeartbeats 4000000 in
theorem S_Mo_hold_4 {G : Gc} {M : Mc} {Q : State → Prop} {K : Option Value → Hp → Prop} (hG : gok G) (hM : mok G M r_Mo_hold Q K) (v0 : Nat) (v1 : Int32) (v2 : Int32) (v3 : Int32) (h : Hp) (F : kT h v0 = 12 ∧ kR h v0 5 = some (rf h v0 5) ∧ (kT h (rf h v0 5) = 50 ∧ vp_in v1 (kN h (rf h v0 5)) ∧ (((kI h (rf h v0 5) (Int32.toNatClampNeg v1)) ≤ v3 → (nb v2 ∧ K (some (.int v2)) h)) ∧ (¬ (kI h (rf h v0 5) (Int32.toNatClampNeg v1)) ≤ v3 → (kT h v0 = 12 ∧ kR h v0 10 = some (rf h v0 10) ∧ (kT h v0 = 12 ∧ kR h v0 6 = some (rf h v0 6) ∧ (kT h (rf h v0 6) = 50 ∧ vp_in ((12 * v1) + (3 * v3)) (kN h (rf h v0 6)) ∧ (kT h (rf h v0 10) = 50 ∧ vp_in (kI h (rf h v0 6) (Int32.toNatClampNeg ((12 * v1) + (3 * v3)))) (kN h (rf h v0 10)) ∧ (kT h v0 = 12 ∧ kR h v0 6 = some (rf h v0 6) ∧ (kT h (rf h v0 6) = 50 ∧ vp_in (((12 * v1) + (3 * v3)) + 1) (kN h (rf h v0 6)) ∧ (kT h v0 = 12 ∧ kR h v0 6 = some (rf h v0 6) ∧ (kT h (rf h v0 6) = 50 ∧ vp_in (((12 * v1) + (3 * v3)) + 2) (kN h (rf h v0 6)) ∧ ((¬ v2 = 0 → (¬ (kI h (rf h v0 6) (Int32.toNatClampNeg (((12 * v1) + (3 * v3)) + 1))) = 0 → (¬ (kI h (rf h v0 6) (Int32.toNatClampNeg (((12 * v1) + (3 * v3)) + 1))) = 1 → ((kI h (rf h v0 6) (Int32.toNatClampNeg (((12 * v1) + (3 * v3)) + 1))) = 2 → (kT h v0 = 12 ∧ kR h v0 10 = some (rf h v0 10) ∧ kT h (rf h v0 10) = 50 ∧ vp_in (kI h (rf h v0 6) (Int32.toNatClampNeg (((12 * v1) + (3 * v3)) + 2))) (kN h (rf h v0 10))))))) ∧ (∀ z1 : Int32, z1 = (if v2 = 0 then 0 else (if (kI h (rf h v0 6) (Int32.toNatClampNeg (((12 * v1) + (3 * v3)) + 1))) = 0 then (if (kI h (rf h v0 10) (Int32.toNatClampNeg (kI h (rf h v0 6) (Int32.toNatClampNeg ((12 * v1) + (3 * v3)))))) = (kI h (rf h v0 6) (Int32.toNatClampNeg (((12 * v1) + (3 * v3)) + 2))) then 1 else 0) else (if (kI h (rf h v0 6) (Int32.toNatClampNeg (((12 * v1) + (3 * v3)) + 1))) = 1 then (if (kI h (rf h v0 10) (Int32.toNatClampNeg (kI h (rf h v0 6) (Int32.toNatClampNeg ((12 * v1) + (3 * v3)))))) = (kI h (rf h v0 6) (Int32.toNatClampNeg (((12 * v1) + (3 * v3)) + 2))) then 0 else 1) else (if (kI h (rf h v0 6) (Int32.toNatClampNeg (((12 * v1) + (3 * v3)) + 1))) = 2 then (if (kI h (rf h v0 10) (Int32.toNatClampNeg (kI h (rf h v0 6) (Int32.toNatClampNeg ((12 * v1) + (3 * v3)))))) = (kI h (rf h v0 10) (Int32.toNatClampNeg (kI h (rf h v0 6) (Int32.toNatClampNeg (((12 * v1) + (3 * v3)) + 2))))) then 1 else 0) else (if (kI h (rf h v0 6) (Int32.toNatClampNeg (((12 * v1) + (3 * v3)) + 2))) ≤ (kI h (rf h v0 10) (Int32.toNatClampNeg (kI h (rf h v0 6) (Int32.toNatClampNeg ((12 * v1) + (3 * v3)))))) then 0 else 1))))) → X G M Q 4 [(0, .ref v0), (1, .int v1), (2, .int z1), (3, .int (v3 + 1))] [] h)))))))))))))) : X G M Q 4 [(0, .ref v0), (1, .int v1), (2, .int v2), (3, .int v3)] [] h := by
  refine x_iload_n hM d_Mo_hold_4 rfl 3 rfl ?_
  refine x_aload_n hM d_Mo_hold_5 rfl 0 rfl ?_
  obtain ⟨c33, F⟩ := F
  obtain ⟨c34, F⟩ := F
  refine x_getr hG hM ck_Mo 5 (Nat.le_of_ble_eq_true rfl) rfl rfl w_902 rfl d_Mo_hold_6 c33 c34 ?_
  refine x_iload_n hM d_Mo_hold_9 rfl 1 rfl ?_
  obtain ⟨c31, F⟩ := F
  obtain ⟨c32, F⟩ := F
  refine x_iaload hG hM d_Mo_hold_10 c31 c32 ?_
  refine x_icmp_ge (tgt := 143) hM d_Mo_hold_11 (by decide) (fun q30 => ?_) (fun q30 => ?_)
  · replace F := F.1 q30
    refine x_iload_n hM d_Mo_hold_143 rfl 2 rfl ?_
    exact x_zreturn hM d_Mo_hold_144 rfl F.1 F.2
  · replace F := F.2 q30
    refine x_aload_n hM d_Mo_hold_14 rfl 0 rfl ?_
    obtain ⟨c28, F⟩ := F
    obtain ⟨c29, F⟩ := F
    refine x_getr hG hM ck_Mo 10 (Nat.le_of_ble_eq_true rfl) rfl rfl w_907 rfl d_Mo_hold_15 c28 c29 ?_
    refine x_aload_n hM d_Mo_hold_18 rfl 0 rfl ?_
    obtain ⟨c26, F⟩ := F
    obtain ⟨c27, F⟩ := F
    refine x_getr hG hM ck_Mo 6 (Nat.le_of_ble_eq_true rfl) rfl rfl w_903 rfl d_Mo_hold_19 c26 c27 ?_
    refine x_bipush (v := 12) hM d_Mo_hold_22 (by decide) ?_
    refine x_iload_n hM d_Mo_hold_24 rfl 1 rfl ?_
    refine x_imul hM d_Mo_hold_25 ?_
    refine x_iconst (v := 3) hM d_Mo_hold_26 (by decide) ?_
    refine x_iload_n hM d_Mo_hold_27 rfl 3 rfl ?_
    refine x_imul hM d_Mo_hold_28 ?_
    refine x_iadd hM d_Mo_hold_29 ?_
    obtain ⟨c24, F⟩ := F
    obtain ⟨c25, F⟩ := F
    refine x_iaload hG hM d_Mo_hold_30 c24 c25 ?_
    obtain ⟨c22, F⟩ := F
    obtain ⟨c23, F⟩ := F
    refine x_iaload hG hM d_Mo_hold_31 c22 c23 ?_
    refine x_istore (lv2 := [(4, .int (kI h (rf h v0 10) (Int32.toNatClampNeg (kI h (rf h v0 6) (Int32.toNatClampNeg ((12 * v1) + (3 * v3))))))), (0, .ref v0), (1, .int v1), (2, .int v2), (3, .int v3)]) hM d_Mo_hold_32 (Nat.le_of_ble_eq_true rfl) rfl ?_
    refine x_aload_n hM d_Mo_hold_34 rfl 1 rfl ?_
    obtain ⟨c20, F⟩ := F
    obtain ⟨c21, F⟩ := F
    refine x_getr hG hM ck_Mo 6 (Nat.le_of_ble_eq_true rfl) rfl rfl w_903 rfl d_Mo_hold_35 c20 c21 ?_
    refine x_bipush (v := 12) hM d_Mo_hold_38 (by decide) ?_
    refine x_iload_n hM d_Mo_hold_40 rfl 2 rfl ?_
    refine x_imul hM d_Mo_hold_41 ?_
    refine x_iconst (v := 3) hM d_Mo_hold_42 (by decide) ?_
    refine x_iload_n hM d_Mo_hold_43 rfl 4 rfl ?_
    refine x_imul hM d_Mo_hold_44 ?_
    refine x_iadd hM d_Mo_hold_45 ?_
    refine x_iconst (v := 1) hM d_Mo_hold_46 (by decide) ?_
    refine x_iadd hM d_Mo_hold_47 ?_
    obtain ⟨c18, F⟩ := F
    obtain ⟨c19, F⟩ := F
    refine x_iaload hG hM d_Mo_hold_48 c18 c19 ?_
    refine x_istore (lv2 := [(5, .int (kI h (rf h v0 6) (Int32.toNatClampNeg (((12 * v1) + (3 * v3)) + 1)))), (4, .int (kI h (rf h v0 10) (Int32.toNatClampNeg (kI h (rf h v0 6) (Int32.toNatClampNeg ((12 * v1) + (3 * v3))))))), (0, .ref v0), (1, .int v1), (2, .int v2), (3, .int v3)]) hM d_Mo_hold_49 (Nat.le_of_ble_eq_true rfl) rfl ?_
    refine x_aload_n hM d_Mo_hold_51 rfl 2 rfl ?_
    obtain ⟨c16, F⟩ := F
    obtain ⟨c17, F⟩ := F
    refine x_getr hG hM ck_Mo 6 (Nat.le_of_ble_eq_true rfl) rfl rfl w_903 rfl d_Mo_hold_52 c16 c17 ?_
    refine x_bipush (v := 12) hM d_Mo_hold_55 (by decide) ?_
    refine x_iload_n hM d_Mo_hold_57 rfl 3 rfl ?_
    refine x_imul hM d_Mo_hold_58 ?_
    refine x_iconst (v := 3) hM d_Mo_hold_59 (by decide) ?_
    refine x_iload_n hM d_Mo_hold_60 rfl 5 rfl ?_
    refine x_imul hM d_Mo_hold_61 ?_
    refine x_iadd hM d_Mo_hold_62 ?_
    refine x_iconst (v := 2) hM d_Mo_hold_63 (by decide) ?_
    refine x_iadd hM d_Mo_hold_64 ?_
    obtain ⟨c14, F⟩ := F
    obtain ⟨c15, F⟩ := F
    refine x_iaload hG hM d_Mo_hold_65 c14 c15 ?_
    refine x_istore (lv2 := [(6, .int (kI h (rf h v0 6) (Int32.toNatClampNeg (((12 * v1) + (3 * v3)) + 2)))), (5, .int (kI h (rf h v0 6) (Int32.toNatClampNeg (((12 * v1) + (3 * v3)) + 1)))), (4, .int (kI h (rf h v0 10) (Int32.toNatClampNeg (kI h (rf h v0 6) (Int32.toNatClampNeg ((12 * v1) + (3 * v3))))))), (0, .ref v0), (1, .int v1), (2, .int v2), (3, .int v3)]) hM d_Mo_hold_66 (Nat.le_of_ble_eq_true rfl) rfl ?_
    refine x_iload_n hM d_Mo_hold_68 rfl 5 rfl ?_
    obtain ⟨S, F⟩ := F
    have JJ : ∀ (z1 : Int32) (ez1 : z1 = (if v2 = 0 then 0 else (if (kI h (rf h v0 6) (Int32.toNatClampNeg (((12 * v1) + (3 * v3)) + 1))) = 0 then (if (kI h (rf h v0 10) (Int32.toNatClampNeg (kI h (rf h v0 6) (Int32.toNatClampNeg ((12 * v1) + (3 * v3)))))) = (kI h (rf h v0 6) (Int32.toNatClampNeg (((12 * v1) + (3 * v3)) + 2))) then 1 else 0) else (if (kI h (rf h v0 6) (Int32.toNatClampNeg (((12 * v1) + (3 * v3)) + 1))) = 1 then (if (kI h (rf h v0 10) (Int32.toNatClampNeg (kI h (rf h v0 6) (Int32.toNatClampNeg ((12 * v1) + (3 * v3)))))) = (kI h (rf h v0 6) (Int32.toNatClampNeg (((12 * v1) + (3 * v3)) + 2))) then 0 else 1) else (if (kI h (rf h v0 6) (Int32.toNatClampNeg (((12 * v1) + (3 * v3)) + 1))) = 2 then (if (kI h (rf h v0 10) (Int32.toNatClampNeg (kI h (rf h v0 6) (Int32.toNatClampNeg ((12 * v1) + (3 * v3)))))) = (kI h (rf h v0 10) (Int32.toNatClampNeg (kI h (rf h v0 6) (Int32.toNatClampNeg (((12 * v1) + (3 * v3)) + 2))))) then 1 else 0) else (if (kI h (rf h v0 6) (Int32.toNatClampNeg (((12 * v1) + (3 * v3)) + 2))) ≤ (kI h (rf h v0 10) (Int32.toNatClampNeg (kI h (rf h v0 6) (Int32.toNatClampNeg ((12 * v1) + (3 * v3)))))) then 0 else 1)))))), X G M Q 136 [(0, .ref v0), (1, .int v1), (3, .int v3)] [.int z1] h := by
      intro z1 ez1
      replace F := F _ ez1
      refine x_istore_n (lv2 := [(2, .int z1), (0, .ref v0), (1, .int v1), (3, .int v3)]) hM d_Mo_hold_136 rfl (Nat.le_of_ble_eq_true rfl) rfl ?_
      refine x_iinc (v := (v3 + 1)) (lv2 := [(3, .int (v3 + 1)), (2, .int z1), (0, .ref v0), (1, .int v1)]) hM d_Mo_hold_137 (j := 3) rfl rfl (Nat.le_of_ble_eq_true rfl) rfl ?_
      refine x_goto (tgt := 4) hM d_Mo_hold_140 (by decide) ?_
      refine x_sub [2, 3, 1, 0] rfl ?_
      exact F
    refine x_if_eq (tgt := 135) hM d_Mo_hold_69 (by decide) (fun q2 => ?_) (fun q2 => ?_)
    · refine x_iconst (v := 0) hM d_Mo_hold_135 (by decide) ?_
      refine x_sub [3, 4, 6] rfl ?_
      exact JJ _ (Eq.symm (if_pos q2))
    · replace S := S q2
      refine x_iload hM d_Mo_hold_72 1 rfl ?_
      refine x_if_ne (tgt := 87) hM d_Mo_hold_74 (by decide) (fun q3 => ?_) (fun q3 => ?_)
      · replace S := S q3
        refine x_iload hM d_Mo_hold_87 1 rfl ?_
        refine x_iconst (v := 1) hM d_Mo_hold_89 (by decide) ?_
        refine x_icmp_ne (tgt := 103) hM d_Mo_hold_90 (by decide) (fun q4 => ?_) (fun q4 => ?_)
        · replace S := S q4
          refine x_iload hM d_Mo_hold_103 1 rfl ?_
          refine x_iconst (v := 2) hM d_Mo_hold_105 (by decide) ?_
          refine x_icmp_ne (tgt := 124) hM d_Mo_hold_106 (by decide) (fun q5 => ?_) (fun q5 => ?_)
          · refine x_iload hM d_Mo_hold_124 2 rfl ?_
            refine x_iload hM d_Mo_hold_126 0 rfl ?_
            refine x_icmp_ge (tgt := 135) hM d_Mo_hold_128 (by decide) (fun q6 => ?_) (fun q6 => ?_)
            · refine x_iconst (v := 0) hM d_Mo_hold_135 (by decide) ?_
              refine x_sub [3, 4, 6] rfl ?_
              exact JJ _ (Eq.symm (Eq.trans (if_neg q2) (Eq.trans (if_neg q3) (Eq.trans (if_neg q4) (Eq.trans (if_neg q5) (if_pos q6))))))
            · refine x_iconst (v := 1) hM d_Mo_hold_131 (by decide) ?_
              refine x_goto (tgt := 136) hM d_Mo_hold_132 (by decide) ?_
              refine x_sub [3, 4, 6] rfl ?_
              exact JJ _ (Eq.symm (Eq.trans (if_neg q2) (Eq.trans (if_neg q3) (Eq.trans (if_neg q4) (Eq.trans (if_neg q5) (if_neg q6))))))
          · replace S := S q5
            refine x_iload hM d_Mo_hold_109 2 rfl ?_
            refine x_aload_n hM d_Mo_hold_111 rfl 3 rfl ?_
            obtain ⟨c7, S⟩ := S
            obtain ⟨c8, S⟩ := S
            refine x_getr hG hM ck_Mo 10 (Nat.le_of_ble_eq_true rfl) rfl rfl w_907 rfl d_Mo_hold_112 c7 c8 ?_
            refine x_iload hM d_Mo_hold_115 0 rfl ?_
            obtain ⟨c9, S⟩ := S
            have c10 := S
            refine x_iaload hG hM d_Mo_hold_117 c9 c10 ?_
            refine x_icmp_ne (tgt := 135) hM d_Mo_hold_118 (by decide) (fun q11 => ?_) (fun q11 => ?_)
            · refine x_iconst (v := 0) hM d_Mo_hold_135 (by decide) ?_
              refine x_sub [3, 4, 6] rfl ?_
              exact JJ _ (Eq.symm (Eq.trans (if_neg q2) (Eq.trans (if_neg q3) (Eq.trans (if_neg q4) (Eq.trans (if_pos q5) (if_neg q11))))))
            · refine x_goto (tgt := 131) hM d_Mo_hold_121 (by decide) ?_
              refine x_iconst (v := 1) hM d_Mo_hold_131 (by decide) ?_
              refine x_goto (tgt := 136) hM d_Mo_hold_132 (by decide) ?_
              refine x_sub [3, 4, 6] rfl ?_
              exact JJ _ (Eq.symm (Eq.trans (if_neg q2) (Eq.trans (if_neg q3) (Eq.trans (if_neg q4) (Eq.trans (if_pos q5) (if_pos q11))))))
        · refine x_iload hM d_Mo_hold_93 2 rfl ?_
          refine x_iload hM d_Mo_hold_95 0 rfl ?_
          refine x_icmp_eq (tgt := 135) hM d_Mo_hold_97 (by decide) (fun q12 => ?_) (fun q12 => ?_)
          · refine x_iconst (v := 0) hM d_Mo_hold_135 (by decide) ?_
            refine x_sub [3, 4, 6] rfl ?_
            exact JJ _ (Eq.symm (Eq.trans (if_neg q2) (Eq.trans (if_neg q3) (Eq.trans (if_pos q4) (if_pos q12)))))
          · refine x_goto (tgt := 131) hM d_Mo_hold_100 (by decide) ?_
            refine x_iconst (v := 1) hM d_Mo_hold_131 (by decide) ?_
            refine x_goto (tgt := 136) hM d_Mo_hold_132 (by decide) ?_
            refine x_sub [3, 4, 6] rfl ?_
            exact JJ _ (Eq.symm (Eq.trans (if_neg q2) (Eq.trans (if_neg q3) (Eq.trans (if_pos q4) (if_neg q12)))))
      · refine x_iload hM d_Mo_hold_77 2 rfl ?_
        refine x_iload hM d_Mo_hold_79 0 rfl ?_
        refine x_icmp_ne (tgt := 135) hM d_Mo_hold_81 (by decide) (fun q13 => ?_) (fun q13 => ?_)
        · refine x_iconst (v := 0) hM d_Mo_hold_135 (by decide) ?_
          refine x_sub [3, 4, 6] rfl ?_
          exact JJ _ (Eq.symm (Eq.trans (if_neg q2) (Eq.trans (if_pos q3) (if_neg q13))))
        · refine x_goto (tgt := 131) hM d_Mo_hold_84 (by decide) ?_
          refine x_iconst (v := 1) hM d_Mo_hold_131 (by decide) ?_
          refine x_goto (tgt := 136) hM d_Mo_hold_132 (by decide) ?_
          refine x_sub [3, 4, 6] rfl ?_
          exact JJ _ (Eq.symm (Eq.trans (if_neg q2) (Eq.trans (if_pos q3) (if_pos q13))))
set_option maxRecDepth 100000 in
set_option maxHeartbeats 4000000 in
theorem S_Mo_goes_0 {G : Gc} {M : Mc} {Q : State → Prop} {K : Option Value → Hp → Prop} (hG : gok G) (hM : mok G M r_Mo_goes Q K) (v0 : Nat) (v1 : Int32) (h : Hp) (F : X G M Q 2 [(0, .ref v0), (1, .int v1), (2, .int 0)] [] h) : X G M Q 0 [(0, .ref v0), (1, .int v1)] [] h := by
  refine x_iconst (v := 0) hM d_Mo_goes_0 (by decide) ?_
  refine x_istore_n (lv2 := [(2, .int 0), (0, .ref v0), (1, .int v1)]) hM d_Mo_goes_1 rfl (Nat.le_of_ble_eq_true rfl) rfl ?_
  refine x_sub [1, 2, 0] rfl ?_
  exact F
set_option maxRecDepth 100000 in
set_option maxHeartbeats 4000000 in
theorem S_Mo_goes_2 {G : Gc} {M : Mc} {Q : State → Prop} {K : Option Value → Hp → Prop} (hG : gok G) (hM : mok G M r_Mo_goes Q K) (v0 : Nat) (v1 : Int32) (v2 : Int32) (h : Hp) (F : kT h v0 = 12 ∧ (((kI h v0 0) ≤ v2 → X G M Q 30 [(0, .ref v0), (1, .int v1), (2, .int 0)] [] h) ∧ (¬ (kI h v0 0) ≤ v2 → (kT h v0 = 12 ∧ kR h v0 11 = some (rf h v0 11) ∧ (kT h v0 = 12 ∧ kR h v0 10 = some (rf h v0 10) ∧ (kT h (rf h v0 10) = 50 ∧ vp_in v2 (kN h (rf h v0 10)) ∧ (kT h (rf h v0 11) = 50 ∧ vp_in v2 (kN h (rf h v0 11)) ∧ (∀ h1 : Hp, h1 = wI h (rf h v0 11) (Int32.toNatClampNeg v2) (kI h (rf h v0 10) (Int32.toNatClampNeg v2)) → X G M Q 2 [(0, .ref v0), (1, .int v1), (2, .int (v2 + 1))] [] h1)))))))) : X G M Q 2 [(0, .ref v0), (1, .int v1), (2, .int v2)] [] h := by
  refine x_iload_n hM d_Mo_goes_2 rfl 2 rfl ?_
  refine x_aload_n hM d_Mo_goes_3 rfl 0 rfl ?_
  obtain ⟨c11, F⟩ := F
  refine x_geti hG hM ck_Mo 0 (Nat.le_of_ble_eq_true rfl) rfl rfl w_897 rfl d_Mo_goes_4 c11 ?_
  refine x_icmp_ge (tgt := 28) hM d_Mo_goes_7 (by decide) (fun q10 => ?_) (fun q10 => ?_)
  · replace F := F.1 q10
    refine x_iconst (v := 0) hM d_Mo_goes_28 (by decide) ?_
    refine x_istore_n (lv2 := [(2, .int 0), (0, .ref v0), (1, .int v1)]) hM d_Mo_goes_29 rfl (Nat.le_of_ble_eq_true rfl) rfl ?_
    refine x_sub [1, 2, 0] rfl ?_
    exact F
  · replace F := F.2 q10
    refine x_aload_n hM d_Mo_goes_10 rfl 0 rfl ?_
    obtain ⟨c8, F⟩ := F
    obtain ⟨c9, F⟩ := F
    refine x_getr hG hM ck_Mo 11 (Nat.le_of_ble_eq_true rfl) rfl rfl w_908 rfl d_Mo_goes_11 c8 c9 ?_
    refine x_iload_n hM d_Mo_goes_14 rfl 2 rfl ?_
    refine x_aload_n hM d_Mo_goes_15 rfl 0 rfl ?_
    obtain ⟨c6, F⟩ := F
    obtain ⟨c7, F⟩ := F
    refine x_getr hG hM ck_Mo 10 (Nat.le_of_ble_eq_true rfl) rfl rfl w_907 rfl d_Mo_goes_16 c6 c7 ?_
    refine x_iload_n hM d_Mo_goes_19 rfl 2 rfl ?_
    obtain ⟨c4, F⟩ := F
    obtain ⟨c5, F⟩ := F
    refine x_iaload hG hM d_Mo_goes_20 c4 c5 ?_
    obtain ⟨c2, F⟩ := F
    obtain ⟨c3, F⟩ := F
    replace F := F _ rfl
    refine x_iastore hG hM d_Mo_goes_21 c2 c3 ?_
    refine x_iinc (v := (v2 + 1)) (lv2 := [(2, .int (v2 + 1)), (0, .ref v0), (1, .int v1)]) hM d_Mo_goes_22 (j := 2) rfl rfl (Nat.le_of_ble_eq_true rfl) rfl ?_
    refine x_goto (tgt := 2) hM d_Mo_goes_25 (by decide) ?_
    refine x_sub [1, 2, 0] rfl ?_
    exact F
set_option maxRecDepth 100000 in
set_option maxHeartbeats 4000000 in
theorem S_Mo_goes_30 {G : Gc} {M : Mc} {Q : State → Prop} {K : Option Value → Hp → Prop} (hG : gok G) (hM : mok G M r_Mo_goes Q K) (v0 : Nat) (v1 : Int32) (v2 : Int32) (h : Hp) (F : kT h v0 = 12 ∧ kR h v0 7 = some (rf h v0 7) ∧ (kT h (rf h v0 7) = 50 ∧ vp_in v1 (kN h (rf h v0 7)) ∧ (((kI h (rf h v0 7) (Int32.toNatClampNeg v1)) ≤ v2 → (kT h v0 = 12 ∧ sem G r_Mo_closeThen [.ref v0] h (fun u2 h1 => ∃ x3 : Int32, u2 = some (.int x3) ∧ K (some (.int x3)) h1))) ∧ (¬ (kI h (rf h v0 7) (Int32.toNatClampNeg v1)) ≤ v2 → (kT h v0 = 12 ∧ kR h v0 8 = some (rf h v0 8) ∧ (kT h (rf h v0 8) = 50 ∧ vp_in ((12 * v1) + (3 * v2)) (kN h (rf h v0 8)) ∧ (kT h v0 = 12 ∧ kR h v0 8 = some (rf h v0 8) ∧ (kT h (rf h v0 8) = 50 ∧ vp_in (((12 * v1) + (3 * v2)) + 1) (kN h (rf h v0 8)) ∧ (kT h v0 = 12 ∧ kR h v0 8 = some (rf h v0 8) ∧ (kT h (rf h v0 8) = 50 ∧ vp_in (((12 * v1) + (3 * v2)) + 2) (kN h (rf h v0 8)) ∧ (kT h v0 = 12 ∧ kR h v0 11 = some (rf h v0 11) ∧ ((¬ (kI h (rf h v0 8) (Int32.toNatClampNeg (((12 * v1) + (3 * v2)) + 1))) = 0 → (((kI h (rf h v0 8) (Int32.toNatClampNeg (((12 * v1) + (3 * v2)) + 1))) = 1 → (kT h v0 = 12 ∧ kR h v0 10 = some (rf h v0 10) ∧ kT h (rf h v0 10) = 50 ∧ vp_in (kI h (rf h v0 8) (Int32.toNatClampNeg (((12 * v1) + (3 * v2)) + 2))) (kN h (rf h v0 10)) ∧ kT h v0 = 12 ∧ kR h v0 1 = some (rf h v0 1) ∧ kT h (rf h v0 1) = 50 ∧ vp_in (kI h (rf h v0 8) (Int32.toNatClampNeg ((12 * v1) + (3 * v2)))) (kN h (rf h v0 1)) ∧ ¬ (kI h (rf h v0 1) (Int32.toNatClampNeg (kI h (rf h v0 8) (Int32.toNatClampNeg ((12 * v1) + (3 * v2)))))) = 0)) ∧ (¬ (kI h (rf h v0 8) (Int32.toNatClampNeg (((12 * v1) + (3 * v2)) + 1))) = 1 → (kT h v0 = 12 ∧ kR h v0 10 = some (rf h v0 10) ∧ kT h (rf h v0 10) = 50 ∧ vp_in (kI h (rf h v0 8) (Int32.toNatClampNeg ((12 * v1) + (3 * v2)))) (kN h (rf h v0 10)) ∧ kT h v0 = 12 ∧ kR h v0 1 = some (rf h v0 1) ∧ kT h (rf h v0 1) = 50 ∧ vp_in (kI h (rf h v0 8) (Int32.toNatClampNeg ((12 * v1) + (3 * v2)))) (kN h (rf h v0 1)) ∧ ¬ (kI h (rf h v0 1) (Int32.toNatClampNeg (kI h (rf h v0 8) (Int32.toNatClampNeg ((12 * v1) + (3 * v2)))))) = 0)))) ∧ (∀ z5 : Int32, z5 = (if (kI h (rf h v0 8) (Int32.toNatClampNeg (((12 * v1) + (3 * v2)) + 1))) = 0 then (kI h (rf h v0 8) (Int32.toNatClampNeg (((12 * v1) + (3 * v2)) + 2))) else (if (kI h (rf h v0 8) (Int32.toNatClampNeg (((12 * v1) + (3 * v2)) + 1))) = 1 then ((kI h (rf h v0 10) (Int32.toNatClampNeg (kI h (rf h v0 8) (Int32.toNatClampNeg (((12 * v1) + (3 * v2)) + 2))))) - (kI h (rf h v0 10) (Int32.toNatClampNeg (kI h (rf h v0 8) (Int32.toNatClampNeg (((12 * v1) + (3 * v2)) + 2))))) / (kI h (rf h v0 1) (Int32.toNatClampNeg (kI h (rf h v0 8) (Int32.toNatClampNeg ((12 * v1) + (3 * v2)))))) * (kI h (rf h v0 1) (Int32.toNatClampNeg (kI h (rf h v0 8) (Int32.toNatClampNeg ((12 * v1) + (3 * v2))))))) else (((kI h (rf h v0 10) (Int32.toNatClampNeg (kI h (rf h v0 8) (Int32.toNatClampNeg ((12 * v1) + (3 * v2)))))) + (kI h (rf h v0 8) (Int32.toNatClampNeg (((12 * v1) + (3 * v2)) + 2)))) - ((kI h (rf h v0 10) (Int32.toNatClampNeg (kI h (rf h v0 8) (Int32.toNatClampNeg ((12 * v1) + (3 * v2)))))) + (kI h (rf h v0 8) (Int32.toNatClampNeg (((12 * v1) + (3 * v2)) + 2)))) / (kI h (rf h v0 1) (Int32.toNatClampNeg (kI h (rf h v0 8) (Int32.toNatClampNeg ((12 * v1) + (3 * v2)))))) * (kI h (rf h v0 1) (Int32.toNatClampNeg (kI h (rf h v0 8) (Int32.toNatClampNeg ((12 * v1) + (3 * v2))))))))) → (kT h (rf h v0 11) = 50 ∧ vp_in (kI h (rf h v0 8) (Int32.toNatClampNeg ((12 * v1) + (3 * v2)))) (kN h (rf h v0 11)) ∧ (∀ h6 : Hp, h6 = wI h (rf h v0 11) (Int32.toNatClampNeg (kI h (rf h v0 8) (Int32.toNatClampNeg ((12 * v1) + (3 * v2))))) z5 → X G M Q 30 [(0, .ref v0), (1, .int v1), (2, .int (v2 + 1))] [] h6))))))))))))))) : X G M Q 30 [(0, .ref v0), (1, .int v1), (2, .int v2)] [] h := by
  refine x_iload_n hM d_Mo_goes_30 rfl 2 rfl ?_
  refine x_aload_n hM d_Mo_goes_31 rfl 0 rfl ?_
  obtain ⟨c46, F⟩ := F
  obtain ⟨c47, F⟩ := F
  refine x_getr hG hM ck_Mo 7 (Nat.le_of_ble_eq_true rfl) rfl rfl w_904 rfl d_Mo_goes_32 c46 c47 ?_
  refine x_iload_n hM d_Mo_goes_35 rfl 1 rfl ?_
  obtain ⟨c44, F⟩ := F
  obtain ⟨c45, F⟩ := F
  refine x_iaload hG hM d_Mo_goes_36 c44 c45 ?_
  refine x_icmp_ge (tgt := 149) hM d_Mo_goes_37 (by decide) (fun q43 => ?_) (fun q43 => ?_)
  · replace F := F.1 q43
    refine x_aload_n hM d_Mo_goes_149 rfl 0 rfl ?_
    obtain ⟨c4, F⟩ := F
    refine x_callV hG hM (r' := r_Mo_closeThen) (ci := 11) [] rfl rfl (Nat.le_of_ble_eq_true rfl) yk_Mo_closeThen ⟨Nat.le_of_ble_eq_true rfl, Nat.le_of_ble_eq_true rfl⟩ w_1104 w_1106 ws_Mo_closeThen rfl rfl (Nat.le_of_ble_eq_true rfl) d_Mo_goes_150 c4 (sem_mono F ?_)
    intro u2 h1 F
    obtain ⟨x3, rfl, F⟩ := F
    exact x_ireturn hM d_Mo_goes_153 rfl F
  · replace F := F.2 q43
    refine x_aload_n hM d_Mo_goes_40 rfl 0 rfl ?_
    obtain ⟨c41, F⟩ := F
    obtain ⟨c42, F⟩ := F
    refine x_getr hG hM ck_Mo 8 (Nat.le_of_ble_eq_true rfl) rfl rfl w_905 rfl d_Mo_goes_41 c41 c42 ?_
    refine x_bipush (v := 12) hM d_Mo_goes_44 (by decide) ?_
    refine x_iload_n hM d_Mo_goes_46 rfl 1 rfl ?_
    refine x_imul hM d_Mo_goes_47 ?_
    refine x_iconst (v := 3) hM d_Mo_goes_48 (by decide) ?_
    refine x_iload_n hM d_Mo_goes_49 rfl 2 rfl ?_
    refine x_imul hM d_Mo_goes_50 ?_
    refine x_iadd hM d_Mo_goes_51 ?_
    obtain ⟨c39, F⟩ := F
    obtain ⟨c40, F⟩ := F
    refine x_iaload hG hM d_Mo_goes_52 c39 c40 ?_
    refine x_istore_n (lv2 := [(3, .int (kI h (rf h v0 8) (Int32.toNatClampNeg ((12 * v1) + (3 * v2))))), (0, .ref v0), (1, .int v1), (2, .int v2)]) hM d_Mo_goes_53 rfl (Nat.le_of_ble_eq_true rfl) rfl ?_
    refine x_aload_n hM d_Mo_goes_54 rfl 1 rfl ?_
    obtain ⟨c37, F⟩ := F
    obtain ⟨c38, F⟩ := F
    refine x_getr hG hM ck_Mo 8 (Nat.le_of_ble_eq_true rfl) rfl rfl w_905 rfl d_Mo_goes_55 c37 c38 ?_
    refine x_bipush (v := 12) hM d_Mo_goes_58 (by decide) ?_
    refine x_iload_n hM d_Mo_goes_60 rfl 2 rfl ?_
    refine x_imul hM d_Mo_goes_61 ?_
    refine x_iconst (v := 3) hM d_Mo_goes_62 (by decide) ?_
    refine x_iload_n hM d_Mo_goes_63 rfl 3 rfl ?_
    refine x_imul hM d_Mo_goes_64 ?_
    refine x_iadd hM d_Mo_goes_65 ?_
    refine x_iconst (v := 1) hM d_Mo_goes_66 (by decide) ?_
    refine x_iadd hM d_Mo_goes_67 ?_
    obtain ⟨c35, F⟩ := F
    obtain ⟨c36, F⟩ := F
    refine x_iaload hG hM d_Mo_goes_68 c35 c36 ?_
    refine x_istore (lv2 := [(4, .int (kI h (rf h v0 8) (Int32.toNatClampNeg (((12 * v1) + (3 * v2)) + 1)))), (3, .int (kI h (rf h v0 8) (Int32.toNatClampNeg ((12 * v1) + (3 * v2))))), (0, .ref v0), (1, .int v1), (2, .int v2)]) hM d_Mo_goes_69 (Nat.le_of_ble_eq_true rfl) rfl ?_
    refine x_aload_n hM d_Mo_goes_71 rfl 2 rfl ?_
    obtain ⟨c33, F⟩ := F
    obtain ⟨c34, F⟩ := F
    refine x_getr hG hM ck_Mo 8 (Nat.le_of_ble_eq_true rfl) rfl rfl w_905 rfl d_Mo_goes_72 c33 c34 ?_
    refine x_bipush (v := 12) hM d_Mo_goes_75 (by decide) ?_
    refine x_iload_n hM d_Mo_goes_77 rfl 3 rfl ?_
    refine x_imul hM d_Mo_goes_78 ?_
    refine x_iconst (v := 3) hM d_Mo_goes_79 (by decide) ?_
    refine x_iload_n hM d_Mo_goes_80 rfl 4 rfl ?_
    refine x_imul hM d_Mo_goes_81 ?_
    refine x_iadd hM d_Mo_goes_82 ?_
    refine x_iconst (v := 2) hM d_Mo_goes_83 (by decide) ?_
    refine x_iadd hM d_Mo_goes_84 ?_
    obtain ⟨c31, F⟩ := F
    obtain ⟨c32, F⟩ := F
    refine x_iaload hG hM d_Mo_goes_85 c31 c32 ?_
    refine x_istore (lv2 := [(5, .int (kI h (rf h v0 8) (Int32.toNatClampNeg (((12 * v1) + (3 * v2)) + 2)))), (4, .int (kI h (rf h v0 8) (Int32.toNatClampNeg (((12 * v1) + (3 * v2)) + 1)))), (3, .int (kI h (rf h v0 8) (Int32.toNatClampNeg ((12 * v1) + (3 * v2))))), (0, .ref v0), (1, .int v1), (2, .int v2)]) hM d_Mo_goes_86 (Nat.le_of_ble_eq_true rfl) rfl ?_
    refine x_aload_n hM d_Mo_goes_88 rfl 3 rfl ?_
    obtain ⟨c29, F⟩ := F
    obtain ⟨c30, F⟩ := F
    refine x_getr hG hM ck_Mo 11 (Nat.le_of_ble_eq_true rfl) rfl rfl w_908 rfl d_Mo_goes_89 c29 c30 ?_
    refine x_iload_n hM d_Mo_goes_92 rfl 2 rfl ?_
    refine x_iload hM d_Mo_goes_93 1 rfl ?_
    obtain ⟨S, F⟩ := F
    have JJ : ∀ (z5 : Int32) (ez5 : z5 = (if (kI h (rf h v0 8) (Int32.toNatClampNeg (((12 * v1) + (3 * v2)) + 1))) = 0 then (kI h (rf h v0 8) (Int32.toNatClampNeg (((12 * v1) + (3 * v2)) + 2))) else (if (kI h (rf h v0 8) (Int32.toNatClampNeg (((12 * v1) + (3 * v2)) + 1))) = 1 then ((kI h (rf h v0 10) (Int32.toNatClampNeg (kI h (rf h v0 8) (Int32.toNatClampNeg (((12 * v1) + (3 * v2)) + 2))))) - (kI h (rf h v0 10) (Int32.toNatClampNeg (kI h (rf h v0 8) (Int32.toNatClampNeg (((12 * v1) + (3 * v2)) + 2))))) / (kI h (rf h v0 1) (Int32.toNatClampNeg (kI h (rf h v0 8) (Int32.toNatClampNeg ((12 * v1) + (3 * v2)))))) * (kI h (rf h v0 1) (Int32.toNatClampNeg (kI h (rf h v0 8) (Int32.toNatClampNeg ((12 * v1) + (3 * v2))))))) else (((kI h (rf h v0 10) (Int32.toNatClampNeg (kI h (rf h v0 8) (Int32.toNatClampNeg ((12 * v1) + (3 * v2)))))) + (kI h (rf h v0 8) (Int32.toNatClampNeg (((12 * v1) + (3 * v2)) + 2)))) - ((kI h (rf h v0 10) (Int32.toNatClampNeg (kI h (rf h v0 8) (Int32.toNatClampNeg ((12 * v1) + (3 * v2)))))) + (kI h (rf h v0 8) (Int32.toNatClampNeg (((12 * v1) + (3 * v2)) + 2)))) / (kI h (rf h v0 1) (Int32.toNatClampNeg (kI h (rf h v0 8) (Int32.toNatClampNeg ((12 * v1) + (3 * v2)))))) * (kI h (rf h v0 1) (Int32.toNatClampNeg (kI h (rf h v0 8) (Int32.toNatClampNeg ((12 * v1) + (3 * v2)))))))))), X G M Q 142 [(0, .ref v0), (1, .int v1), (2, .int v2)] [.int z5, .int (kI h (rf h v0 8) (Int32.toNatClampNeg ((12 * v1) + (3 * v2)))), .ref (rf h v0 11)] h := by
      intro z5 ez5
      replace F := F _ ez5
      obtain ⟨c7, F⟩ := F
      obtain ⟨c8, F⟩ := F
      replace F := F _ rfl
      refine x_iastore hG hM d_Mo_goes_142 c7 c8 ?_
      refine x_iinc (v := (v2 + 1)) (lv2 := [(2, .int (v2 + 1)), (0, .ref v0), (1, .int v1)]) hM d_Mo_goes_143 (j := 2) rfl rfl (Nat.le_of_ble_eq_true rfl) rfl ?_
      refine x_goto (tgt := 30) hM d_Mo_goes_146 (by decide) ?_
      refine x_sub [1, 2, 0] rfl ?_
      exact F
    refine x_if_ne (tgt := 103) hM d_Mo_goes_95 (by decide) (fun q9 => ?_) (fun q9 => ?_)
    · replace S := S q9
      refine x_iload hM d_Mo_goes_103 1 rfl ?_
      refine x_iconst (v := 1) hM d_Mo_goes_105 (by decide) ?_
      refine x_icmp_ne (tgt := 126) hM d_Mo_goes_106 (by decide) (fun q10 => ?_) (fun q10 => ?_)
      · replace S := S.2 q10
        refine x_aload_n hM d_Mo_goes_126 rfl 3 rfl ?_
        obtain ⟨c11, S⟩ := S
        obtain ⟨c12, S⟩ := S
        refine x_getr hG hM ck_Mo 10 (Nat.le_of_ble_eq_true rfl) rfl rfl w_907 rfl d_Mo_goes_127 c11 c12 ?_
        refine x_iload_n hM d_Mo_goes_130 rfl 2 rfl ?_
        obtain ⟨c13, S⟩ := S
        obtain ⟨c14, S⟩ := S
        refine x_iaload hG hM d_Mo_goes_131 c13 c14 ?_
        refine x_iload hM d_Mo_goes_132 0 rfl ?_
        refine x_iadd hM d_Mo_goes_134 ?_
        refine x_aload_n hM d_Mo_goes_135 rfl 3 rfl ?_
        obtain ⟨c15, S⟩ := S
        obtain ⟨c16, S⟩ := S
        refine x_getr hG hM ck_Mo 1 (Nat.le_of_ble_eq_true rfl) rfl rfl w_898 rfl d_Mo_goes_136 c15 c16 ?_
        refine x_iload_n hM d_Mo_goes_139 rfl 2 rfl ?_
        obtain ⟨c17, S⟩ := S
        obtain ⟨c18, S⟩ := S
        refine x_iaload hG hM d_Mo_goes_140 c17 c18 ?_
        have c19 := S
        refine x_irem hM d_Mo_goes_141 c19 ?_
        refine x_sub [3, 4, 5] rfl ?_
        exact JJ _ (Eq.symm (Eq.trans (if_neg q9) (if_neg q10)))
      · replace S := S.1 q10
        refine x_aload_n hM d_Mo_goes_109 rfl 3 rfl ?_
        obtain ⟨c20, S⟩ := S
        obtain ⟨c21, S⟩ := S
        refine x_getr hG hM ck_Mo 10 (Nat.le_of_ble_eq_true rfl) rfl rfl w_907 rfl d_Mo_goes_110 c20 c21 ?_
        refine x_iload hM d_Mo_goes_113 0 rfl ?_
        obtain ⟨c22, S⟩ := S
        obtain ⟨c23, S⟩ := S
        refine x_iaload hG hM d_Mo_goes_115 c22 c23 ?_
        refine x_aload_n hM d_Mo_goes_116 rfl 3 rfl ?_
        obtain ⟨c24, S⟩ := S
        obtain ⟨c25, S⟩ := S
        refine x_getr hG hM ck_Mo 1 (Nat.le_of_ble_eq_true rfl) rfl rfl w_898 rfl d_Mo_goes_117 c24 c25 ?_
        refine x_iload_n hM d_Mo_goes_120 rfl 2 rfl ?_
        obtain ⟨c26, S⟩ := S
        obtain ⟨c27, S⟩ := S
        refine x_iaload hG hM d_Mo_goes_121 c26 c27 ?_
        have c28 := S
        refine x_irem hM d_Mo_goes_122 c28 ?_
        refine x_goto (tgt := 142) hM d_Mo_goes_123 (by decide) ?_
        refine x_sub [3, 4, 5] rfl ?_
        exact JJ _ (Eq.symm (Eq.trans (if_neg q9) (if_pos q10)))
    · refine x_iload hM d_Mo_goes_98 0 rfl ?_
      refine x_goto (tgt := 142) hM d_Mo_goes_100 (by decide) ?_
      refine x_sub [3, 4, 5] rfl ?_
      exact JJ _ (Eq.symm (if_pos q9))
set_option maxRecDepth 100000 in
set_option maxHeartbeats 4000000 in
theorem S_Mo_closeThen_0 {G : Gc} {M : Mc} {Q : State → Prop} {K : Option Value → Hp → Prop} (hG : gok G) (hM : mok G M r_Mo_closeThen Q K) (v0 : Nat) (h : Hp) (F : kT h v0 = 12 ∧ X G M Q 9 [(0, .ref v0), (1, .int 0), (2, .int ((kI h v0 0) - 1))] [] h) : X G M Q 0 [(0, .ref v0)] [] h := by
  refine x_iconst (v := 0) hM d_Mo_closeThen_0 (by decide) ?_
  refine x_istore_n (lv2 := [(1, .int 0), (0, .ref v0)]) hM d_Mo_closeThen_1 rfl (Nat.le_of_ble_eq_true rfl) rfl ?_
  refine x_aload_n hM d_Mo_closeThen_2 rfl 1 rfl ?_
  obtain ⟨c1, F⟩ := F
  refine x_geti hG hM ck_Mo 0 (Nat.le_of_ble_eq_true rfl) rfl rfl w_897 rfl d_Mo_closeThen_3 c1 ?_
  refine x_iconst (v := 1) hM d_Mo_closeThen_6 (by decide) ?_
  refine x_isub hM d_Mo_closeThen_7 ?_
  refine x_istore_n (lv2 := [(2, .int ((kI h v0 0) - 1)), (1, .int 0), (0, .ref v0)]) hM d_Mo_closeThen_8 rfl (Nat.le_of_ble_eq_true rfl) rfl ?_
  refine x_sub [2, 1, 0] rfl ?_
  exact F
set_option maxRecDepth 100000 in
set_option maxHeartbeats 4000000 in
theorem S_Mo_closeThen_9 {G : Gc} {M : Mc} {Q : State → Prop} {K : Option Value → Hp → Prop} (hG : gok G) (hM : mok G M r_Mo_closeThen Q K) (v0 : Nat) (v1 : Int32) (v2 : Int32) (h : Hp) (F : (v2 < 0 → K (some (.int v1)) h) ∧ (¬ v2 < 0 → (kT h v0 = 12 ∧ kR h v0 1 = some (rf h v0 1) ∧ (kT h (rf h v0 1) = 50 ∧ vp_in v2 (kN h (rf h v0 1)) ∧ (kT h v0 = 12 ∧ kR h v0 11 = some (rf h v0 11) ∧ (kT h (rf h v0 11) = 50 ∧ vp_in v2 (kN h (rf h v0 11)) ∧ X G M Q 9 [(0, .ref v0), (1, .int ((v1 * (kI h (rf h v0 1) (Int32.toNatClampNeg v2))) + (kI h (rf h v0 11) (Int32.toNatClampNeg v2)))), (2, .int (v2 + (-1)))] [] h)))))) : X G M Q 9 [(0, .ref v0), (1, .int v1), (2, .int v2)] [] h := by
  refine x_iload_n hM d_Mo_closeThen_9 rfl 2 rfl ?_
  refine x_if_lt (tgt := 35) hM d_Mo_closeThen_10 (by decide) (fun q9 => ?_) (fun q9 => ?_)
  · replace F := F.1 q9
    refine x_iload_n hM d_Mo_closeThen_35 rfl 1 rfl ?_
    exact x_ireturn hM d_Mo_closeThen_36 rfl F
  · replace F := F.2 q9
    refine x_iload_n hM d_Mo_closeThen_13 rfl 1 rfl ?_
    refine x_aload_n hM d_Mo_closeThen_14 rfl 0 rfl ?_
    obtain ⟨c7, F⟩ := F
    obtain ⟨c8, F⟩ := F
    refine x_getr hG hM ck_Mo 1 (Nat.le_of_ble_eq_true rfl) rfl rfl w_898 rfl d_Mo_closeThen_15 c7 c8 ?_
    refine x_iload_n hM d_Mo_closeThen_18 rfl 2 rfl ?_
    obtain ⟨c5, F⟩ := F
    obtain ⟨c6, F⟩ := F
    refine x_iaload hG hM d_Mo_closeThen_19 c5 c6 ?_
    refine x_imul hM d_Mo_closeThen_20 ?_
    refine x_aload_n hM d_Mo_closeThen_21 rfl 0 rfl ?_
    obtain ⟨c3, F⟩ := F
    obtain ⟨c4, F⟩ := F
    refine x_getr hG hM ck_Mo 11 (Nat.le_of_ble_eq_true rfl) rfl rfl w_908 rfl d_Mo_closeThen_22 c3 c4 ?_
    refine x_iload_n hM d_Mo_closeThen_25 rfl 2 rfl ?_
    obtain ⟨c1, F⟩ := F
    obtain ⟨c2, F⟩ := F
    refine x_iaload hG hM d_Mo_closeThen_26 c1 c2 ?_
    refine x_iadd hM d_Mo_closeThen_27 ?_
    refine x_istore_n (lv2 := [(1, .int ((v1 * (kI h (rf h v0 1) (Int32.toNatClampNeg v2))) + (kI h (rf h v0 11) (Int32.toNatClampNeg v2)))), (0, .ref v0), (2, .int v2)]) hM d_Mo_closeThen_28 rfl (Nat.le_of_ble_eq_true rfl) rfl ?_
    refine x_iinc (v := (v2 + (-1))) (lv2 := [(2, .int (v2 + (-1))), (1, .int ((v1 * (kI h (rf h v0 1) (Int32.toNatClampNeg v2))) + (kI h (rf h v0 11) (Int32.toNatClampNeg v2)))), (0, .ref v0)]) hM d_Mo_closeThen_29 (j := 2) rfl rfl (Nat.le_of_ble_eq_true rfl) rfl ?_
    refine x_goto (tgt := 9) hM d_Mo_closeThen_32 (by decide) ?_
    refine x_sub [2, 1, 0] rfl ?_
    exact F
set_option maxRecDepth 100000 in
set_option maxHeartbeats 4000000 in
theorem S_Mo_count_0 {G : Gc} {M : Mc} {Q : State → Prop} {K : Option Value → Hp → Prop} (hG : gok G) (hM : mok G M r_Mo_count Q K) (v0 : Nat) (v1 : Int32) (h : Hp) (F : kT h v0 = 12 ∧ sem G r_Mo_lay [.ref v0] h (fun u2 h1 => u2 = none ∧ ((v1 = 0 → (kT h1 v0 = 12 ∧ K (some (.int (kI h1 v0 13))) h1)) ∧ (v1 = 1 → (kT h1 v0 = 12 ∧ K (some (.int (kI h1 v0 0))) h1)) ∧ (v1 = 2 → (kT h1 v0 = 12 ∧ K (some (.int (kI h1 v0 3))) h1)) ∧ (v1 = 3 → (sem G r_Mo_isIn [.int v1, .int 3, .int 8] h1 (fun u7 h6 => ∃ x8 : Int32, u7 = some (.int x8) ∧ ((x8 = 0 → K (some (.int (-2))) h6) ∧ (¬ x8 = 0 → X G M Q 108 [(0, .ref v0), (1, .int v1), (2, .int 0), (3, .int 0)] [] h6))))) ∧ (v1 = 4 → (sem G r_Mo_isIn [.int v1, .int 3, .int 8] h1 (fun u11 h10 => ∃ x12 : Int32, u11 = some (.int x12) ∧ ((x12 = 0 → K (some (.int (-2))) h10) ∧ (¬ x12 = 0 → X G M Q 108 [(0, .ref v0), (1, .int v1), (2, .int 0), (3, .int 0)] [] h10))))) ∧ (v1 = 5 → (sem G r_Mo_isIn [.int v1, .int 3, .int 8] h1 (fun u15 h14 => ∃ x16 : Int32, u15 = some (.int x16) ∧ ((x16 = 0 → K (some (.int (-2))) h14) ∧ (¬ x16 = 0 → X G M Q 108 [(0, .ref v0), (1, .int v1), (2, .int 0), (3, .int 0)] [] h14))))) ∧ (v1 = 6 → (sem G r_Mo_isIn [.int v1, .int 3, .int 8] h1 (fun u19 h18 => ∃ x20 : Int32, u19 = some (.int x20) ∧ ((x20 = 0 → K (some (.int (-2))) h18) ∧ (¬ x20 = 0 → X G M Q 108 [(0, .ref v0), (1, .int v1), (2, .int 0), (3, .int 0)] [] h18))))) ∧ (v1 = 7 → (sem G r_Mo_isIn [.int v1, .int 3, .int 8] h1 (fun u23 h22 => ∃ x24 : Int32, u23 = some (.int x24) ∧ ((x24 = 0 → K (some (.int (-2))) h22) ∧ (¬ x24 = 0 → X G M Q 108 [(0, .ref v0), (1, .int v1), (2, .int 0), (3, .int 0)] [] h22))))) ∧ (v1 = 8 → (sem G r_Mo_isIn [.int v1, .int 3, .int 8] h1 (fun u27 h26 => ∃ x28 : Int32, u27 = some (.int x28) ∧ ((x28 = 0 → K (some (.int (-2))) h26) ∧ (¬ x28 = 0 → X G M Q 108 [(0, .ref v0), (1, .int v1), (2, .int 0), (3, .int 0)] [] h26))))) ∧ (v1 = 9 → (kT h1 v0 = 12 ∧ sem G r_Mo_partAll [.ref v0] h1 (fun u31 h30 => u31 = none ∧ (kT h30 v0 = 12 ∧ K (some (.int (kI h30 v0 32))) h30)))) ∧ (v1 = 10 → (kT h1 v0 = 12 ∧ K (some (.int (kI h1 v0 9))) h1)) ∧ (¬ v1 = 0 → ¬ v1 = 1 → ¬ v1 = 2 → ¬ v1 = 3 → ¬ v1 = 4 → ¬ v1 = 5 → ¬ v1 = 6 → ¬ v1 = 7 → ¬ v1 = 8 → ¬ v1 = 9 → ¬ v1 = 10 → (sem G r_Mo_isIn [.int v1, .int 3, .int 8] h1 (fun u36 h35 => ∃ x37 : Int32, u36 = some (.int x37) ∧ ((x37 = 0 → K (some (.int (-2))) h35) ∧ (¬ x37 = 0 → X G M Q 108 [(0, .ref v0), (1, .int v1), (2, .int 0), (3, .int 0)] [] h35)))))))) : X G M Q 0 [(0, .ref v0), (1, .int v1)] [] h := by
  refine x_aload_n hM d_Mo_count_0 rfl 0 rfl ?_
  obtain ⟨c39, F⟩ := F
  refine x_callV hG hM (r' := r_Mo_lay) (ci := 11) [] rfl rfl (Nat.le_of_ble_eq_true rfl) yk_Mo_lay ⟨Nat.le_of_ble_eq_true rfl, Nat.le_of_ble_eq_true rfl⟩ w_1112 w_1114 ws_Mo_lay rfl rfl (Nat.le_of_ble_eq_true rfl) d_Mo_count_1 c39 (sem_mono F ?_)
  intro u2 h1 F
  obtain ⟨rfl, F⟩ := F
  refine x_iconst (v := 0) hM d_Mo_count_4 (by decide) ?_
  refine x_istore_n (lv2 := [(2, .int 0), (0, .ref v0), (1, .int v1)]) hM d_Mo_count_5 rfl (Nat.le_of_ble_eq_true rfl) rfl ?_
  refine x_iload_n hM d_Mo_count_6 rfl 2 rfl ?_
  by_cases q7_0 : v1 = 0
  · replace F := F.1 q7_0
    refine x_tblIn (tgt := 64) hM d_Mo_count_7 (by rw [q7_0]; decide) (by rw [q7_0]; decide) (by rw [q7_0]; rfl) (by decide) ?_
    refine x_aload_n hM d_Mo_count_64 rfl 1 rfl ?_
    obtain ⟨c3, F⟩ := F
    refine x_geti hG hM ck_Mo 13 (Nat.le_of_ble_eq_true rfl) rfl rfl w_910 rfl d_Mo_count_65 c3 ?_
    exact x_ireturn hM d_Mo_count_68 rfl F
  by_cases q7_1 : v1 = 1
  · replace F := F.2.1 q7_1
    refine x_tblIn (tgt := 69) hM d_Mo_count_7 (by rw [q7_1]; decide) (by rw [q7_1]; decide) (by rw [q7_1]; rfl) (by decide) ?_
    refine x_aload_n hM d_Mo_count_69 rfl 1 rfl ?_
    obtain ⟨c4, F⟩ := F
    refine x_geti hG hM ck_Mo 0 (Nat.le_of_ble_eq_true rfl) rfl rfl w_897 rfl d_Mo_count_70 c4 ?_
    exact x_ireturn hM d_Mo_count_73 rfl F
  by_cases q7_2 : v1 = 2
  · replace F := F.2.2.1 q7_2
    refine x_tblIn (tgt := 74) hM d_Mo_count_7 (by rw [q7_2]; decide) (by rw [q7_2]; decide) (by rw [q7_2]; rfl) (by decide) ?_
    refine x_aload_n hM d_Mo_count_74 rfl 1 rfl ?_
    obtain ⟨c5, F⟩ := F
    refine x_geti hG hM ck_Mo 3 (Nat.le_of_ble_eq_true rfl) rfl rfl w_900 rfl d_Mo_count_75 c5 ?_
    exact x_ireturn hM d_Mo_count_78 rfl F
  by_cases q7_3 : v1 = 3
  · replace F := F.2.2.2.1 q7_3
    refine x_tblIn (tgt := 93) hM d_Mo_count_7 (by rw [q7_3]; decide) (by rw [q7_3]; decide) (by rw [q7_3]; rfl) (by decide) ?_
    refine x_iload_n hM d_Mo_count_93 rfl 2 rfl ?_
    refine x_iconst (v := 3) hM d_Mo_count_94 (by decide) ?_
    refine x_bipush (v := 8) hM d_Mo_count_95 (by decide) ?_
    refine x_callS hG hM (r' := r_Mo_isIn) [.int v1, .int 3, .int 8] rfl yk_Mo_isIn ⟨Nat.le_of_ble_eq_true rfl, Nat.le_of_ble_eq_true rfl⟩ w_1017 w_1018 rfl rfl (Nat.le_of_ble_eq_true rfl) d_Mo_count_97 (sem_mono F ?_)
    intro u7 h6 F
    obtain ⟨x8, rfl, F⟩ := F
    refine x_if_ne (tgt := 106) hM d_Mo_count_100 (by decide) (fun q9 => ?_) (fun q9 => ?_)
    · replace F := F.2 q9
      refine x_iconst (v := 0) hM d_Mo_count_106 (by decide) ?_
      refine x_istore_n (lv2 := [(3, .int 0), (2, .int 0), (0, .ref v0), (1, .int v1)]) hM d_Mo_count_107 rfl (Nat.le_of_ble_eq_true rfl) rfl ?_
      refine x_sub [2, 3, 1, 0] rfl ?_
      exact F
    · replace F := F.1 q9
      refine x_bipush (v := (-2)) hM d_Mo_count_103 (by decide) ?_
      exact x_ireturn hM d_Mo_count_105 rfl F
  by_cases q7_4 : v1 = 4
  · replace F := F.2.2.2.2.1 q7_4
    refine x_tblIn (tgt := 93) hM d_Mo_count_7 (by rw [q7_4]; decide) (by rw [q7_4]; decide) (by rw [q7_4]; rfl) (by decide) ?_
    refine x_iload_n hM d_Mo_count_93 rfl 2 rfl ?_
    refine x_iconst (v := 3) hM d_Mo_count_94 (by decide) ?_
    refine x_bipush (v := 8) hM d_Mo_count_95 (by decide) ?_
    refine x_callS hG hM (r' := r_Mo_isIn) [.int v1, .int 3, .int 8] rfl yk_Mo_isIn ⟨Nat.le_of_ble_eq_true rfl, Nat.le_of_ble_eq_true rfl⟩ w_1017 w_1018 rfl rfl (Nat.le_of_ble_eq_true rfl) d_Mo_count_97 (sem_mono F ?_)
    intro u11 h10 F
    obtain ⟨x12, rfl, F⟩ := F
    refine x_if_ne (tgt := 106) hM d_Mo_count_100 (by decide) (fun q13 => ?_) (fun q13 => ?_)
    · replace F := F.2 q13
      refine x_iconst (v := 0) hM d_Mo_count_106 (by decide) ?_
      refine x_istore_n (lv2 := [(3, .int 0), (2, .int 0), (0, .ref v0), (1, .int v1)]) hM d_Mo_count_107 rfl (Nat.le_of_ble_eq_true rfl) rfl ?_
      refine x_sub [2, 3, 1, 0] rfl ?_
      exact F
    · replace F := F.1 q13
      refine x_bipush (v := (-2)) hM d_Mo_count_103 (by decide) ?_
      exact x_ireturn hM d_Mo_count_105 rfl F
  by_cases q7_5 : v1 = 5
  · replace F := F.2.2.2.2.2.1 q7_5
    refine x_tblIn (tgt := 93) hM d_Mo_count_7 (by rw [q7_5]; decide) (by rw [q7_5]; decide) (by rw [q7_5]; rfl) (by decide) ?_
    refine x_iload_n hM d_Mo_count_93 rfl 2 rfl ?_
    refine x_iconst (v := 3) hM d_Mo_count_94 (by decide) ?_
    refine x_bipush (v := 8) hM d_Mo_count_95 (by decide) ?_
    refine x_callS hG hM (r' := r_Mo_isIn) [.int v1, .int 3, .int 8] rfl yk_Mo_isIn ⟨Nat.le_of_ble_eq_true rfl, Nat.le_of_ble_eq_true rfl⟩ w_1017 w_1018 rfl rfl (Nat.le_of_ble_eq_true rfl) d_Mo_count_97 (sem_mono F ?_)
    intro u15 h14 F
    obtain ⟨x16, rfl, F⟩ := F
    refine x_if_ne (tgt := 106) hM d_Mo_count_100 (by decide) (fun q17 => ?_) (fun q17 => ?_)
    · replace F := F.2 q17
      refine x_iconst (v := 0) hM d_Mo_count_106 (by decide) ?_
      refine x_istore_n (lv2 := [(3, .int 0), (2, .int 0), (0, .ref v0), (1, .int v1)]) hM d_Mo_count_107 rfl (Nat.le_of_ble_eq_true rfl) rfl ?_
      refine x_sub [2, 3, 1, 0] rfl ?_
      exact F
    · replace F := F.1 q17
      refine x_bipush (v := (-2)) hM d_Mo_count_103 (by decide) ?_
      exact x_ireturn hM d_Mo_count_105 rfl F
  by_cases q7_6 : v1 = 6
  · replace F := F.2.2.2.2.2.2.1 q7_6
    refine x_tblIn (tgt := 93) hM d_Mo_count_7 (by rw [q7_6]; decide) (by rw [q7_6]; decide) (by rw [q7_6]; rfl) (by decide) ?_
    refine x_iload_n hM d_Mo_count_93 rfl 2 rfl ?_
    refine x_iconst (v := 3) hM d_Mo_count_94 (by decide) ?_
    refine x_bipush (v := 8) hM d_Mo_count_95 (by decide) ?_
    refine x_callS hG hM (r' := r_Mo_isIn) [.int v1, .int 3, .int 8] rfl yk_Mo_isIn ⟨Nat.le_of_ble_eq_true rfl, Nat.le_of_ble_eq_true rfl⟩ w_1017 w_1018 rfl rfl (Nat.le_of_ble_eq_true rfl) d_Mo_count_97 (sem_mono F ?_)
    intro u19 h18 F
    obtain ⟨x20, rfl, F⟩ := F
    refine x_if_ne (tgt := 106) hM d_Mo_count_100 (by decide) (fun q21 => ?_) (fun q21 => ?_)
    · replace F := F.2 q21
      refine x_iconst (v := 0) hM d_Mo_count_106 (by decide) ?_
      refine x_istore_n (lv2 := [(3, .int 0), (2, .int 0), (0, .ref v0), (1, .int v1)]) hM d_Mo_count_107 rfl (Nat.le_of_ble_eq_true rfl) rfl ?_
      refine x_sub [2, 3, 1, 0] rfl ?_
      exact F
    · replace F := F.1 q21
      refine x_bipush (v := (-2)) hM d_Mo_count_103 (by decide) ?_
      exact x_ireturn hM d_Mo_count_105 rfl F
  by_cases q7_7 : v1 = 7
  · replace F := F.2.2.2.2.2.2.2.1 q7_7
    refine x_tblIn (tgt := 93) hM d_Mo_count_7 (by rw [q7_7]; decide) (by rw [q7_7]; decide) (by rw [q7_7]; rfl) (by decide) ?_
    refine x_iload_n hM d_Mo_count_93 rfl 2 rfl ?_
    refine x_iconst (v := 3) hM d_Mo_count_94 (by decide) ?_
    refine x_bipush (v := 8) hM d_Mo_count_95 (by decide) ?_
    refine x_callS hG hM (r' := r_Mo_isIn) [.int v1, .int 3, .int 8] rfl yk_Mo_isIn ⟨Nat.le_of_ble_eq_true rfl, Nat.le_of_ble_eq_true rfl⟩ w_1017 w_1018 rfl rfl (Nat.le_of_ble_eq_true rfl) d_Mo_count_97 (sem_mono F ?_)
    intro u23 h22 F
    obtain ⟨x24, rfl, F⟩ := F
    refine x_if_ne (tgt := 106) hM d_Mo_count_100 (by decide) (fun q25 => ?_) (fun q25 => ?_)
    · replace F := F.2 q25
      refine x_iconst (v := 0) hM d_Mo_count_106 (by decide) ?_
      refine x_istore_n (lv2 := [(3, .int 0), (2, .int 0), (0, .ref v0), (1, .int v1)]) hM d_Mo_count_107 rfl (Nat.le_of_ble_eq_true rfl) rfl ?_
      refine x_sub [2, 3, 1, 0] rfl ?_
      exact F
    · replace F := F.1 q25
      refine x_bipush (v := (-2)) hM d_Mo_count_103 (by decide) ?_
      exact x_ireturn hM d_Mo_count_105 rfl F
  by_cases q7_8 : v1 = 8
  · replace F := F.2.2.2.2.2.2.2.2.1 q7_8
    refine x_tblIn (tgt := 93) hM d_Mo_count_7 (by rw [q7_8]; decide) (by rw [q7_8]; decide) (by rw [q7_8]; rfl) (by decide) ?_
    refine x_iload_n hM d_Mo_count_93 rfl 2 rfl ?_
    refine x_iconst (v := 3) hM d_Mo_count_94 (by decide) ?_
    refine x_bipush (v := 8) hM d_Mo_count_95 (by decide) ?_
    refine x_callS hG hM (r' := r_Mo_isIn) [.int v1, .int 3, .int 8] rfl yk_Mo_isIn ⟨Nat.le_of_ble_eq_true rfl, Nat.le_of_ble_eq_true rfl⟩ w_1017 w_1018 rfl rfl (Nat.le_of_ble_eq_true rfl) d_Mo_count_97 (sem_mono F ?_)
    intro u27 h26 F
    obtain ⟨x28, rfl, F⟩ := F
    refine x_if_ne (tgt := 106) hM d_Mo_count_100 (by decide) (fun q29 => ?_) (fun q29 => ?_)
    · replace F := F.2 q29
      refine x_iconst (v := 0) hM d_Mo_count_106 (by decide) ?_
      refine x_istore_n (lv2 := [(3, .int 0), (2, .int 0), (0, .ref v0), (1, .int v1)]) hM d_Mo_count_107 rfl (Nat.le_of_ble_eq_true rfl) rfl ?_
      refine x_sub [2, 3, 1, 0] rfl ?_
      exact F
    · replace F := F.1 q29
      refine x_bipush (v := (-2)) hM d_Mo_count_103 (by decide) ?_
      exact x_ireturn hM d_Mo_count_105 rfl F
  by_cases q7_9 : v1 = 9
  · replace F := F.2.2.2.2.2.2.2.2.2.1 q7_9
    refine x_tblIn (tgt := 79) hM d_Mo_count_7 (by rw [q7_9]; decide) (by rw [q7_9]; decide) (by rw [q7_9]; rfl) (by decide) ?_
    refine x_aload_n hM d_Mo_count_79 rfl 1 rfl ?_
    obtain ⟨c33, F⟩ := F
    refine x_callV hG hM (r' := r_Mo_partAll) (ci := 11) [] rfl rfl (Nat.le_of_ble_eq_true rfl) yk_Mo_partAll ⟨Nat.le_of_ble_eq_true rfl, Nat.le_of_ble_eq_true rfl⟩ w_1140 w_1142 ws_Mo_partAll rfl rfl (Nat.le_of_ble_eq_true rfl) d_Mo_count_80 c33 (sem_mono F ?_)
    intro u31 h30 F
    obtain ⟨rfl, F⟩ := F
    refine x_aload_n hM d_Mo_count_83 rfl 1 rfl ?_
    obtain ⟨c32, F⟩ := F
    refine x_geti hG hM ck_Mo 32 (Nat.le_of_ble_eq_true rfl) rfl rfl w_929 rfl d_Mo_count_84 c32 ?_
    exact x_ireturn hM d_Mo_count_87 rfl F
  by_cases q7_10 : v1 = 10
  · replace F := F.2.2.2.2.2.2.2.2.2.2.1 q7_10
    refine x_tblIn (tgt := 88) hM d_Mo_count_7 (by rw [q7_10]; decide) (by rw [q7_10]; decide) (by rw [q7_10]; rfl) (by decide) ?_
    refine x_aload_n hM d_Mo_count_88 rfl 1 rfl ?_
    obtain ⟨c34, F⟩ := F
    refine x_geti hG hM ck_Mo 9 (Nat.le_of_ble_eq_true rfl) rfl rfl w_906 rfl d_Mo_count_89 c34 ?_
    exact x_ireturn hM d_Mo_count_92 rfl F
  replace F := F.2.2.2.2.2.2.2.2.2.2.2 q7_0 q7_1 q7_2 q7_3 q7_4 q7_5 q7_6 q7_7 q7_8 q7_9 q7_10
  refine x_tblOut (tgt := 93) hM d_Mo_count_7 (sw_out10 q7_0 q7_1 q7_2 q7_3 q7_4 q7_5 q7_6 q7_7 q7_8 q7_9 q7_10) (by decide) ?_
  refine x_iload_n hM d_Mo_count_93 rfl 2 rfl ?_
  refine x_iconst (v := 3) hM d_Mo_count_94 (by decide) ?_
  refine x_bipush (v := 8) hM d_Mo_count_95 (by decide) ?_
  refine x_callS hG hM (r' := r_Mo_isIn) [.int v1, .int 3, .int 8] rfl yk_Mo_isIn ⟨Nat.le_of_ble_eq_true rfl, Nat.le_of_ble_eq_true rfl⟩ w_1017 w_1018 rfl rfl (Nat.le_of_ble_eq_true rfl) d_Mo_count_97 (sem_mono F ?_)
  intro u36 h35 F
  obtain ⟨x37, rfl, F⟩ := F
  refine x_if_ne (tgt := 106) hM d_Mo_count_100 (by decide) (fun q38 => ?_) (fun q38 => ?_)
  · replace F := F.2 q38
    refine x_iconst (v := 0) hM d_Mo_count_106 (by decide) ?_
    refine x_istore_n (lv2 := [(3, .int 0), (2, .int 0), (0, .ref v0), (1, .int v1)]) hM d_Mo_count_107 rfl (Nat.le_of_ble_eq_true rfl) rfl ?_
    refine x_sub [2, 3, 1, 0] rfl ?_
    exact F
  · replace F := F.1 q38
    refine x_bipush (v := (-2)) hM d_Mo_count_103 (by decide) ?_
    exact x_ireturn hM d_Mo_count_105 rfl F
set_option maxRecDepth 100000 in
set_option maxHeartbeats 4000000 in
theorem S_Mo_count_108 {G : Gc} {M : Mc} {Q : State → Prop} {K : Option Value → Hp → Prop} (hG : gok G) (hM : mok G M r_Mo_count Q K) (v0 : Nat) (v1 : Int32) (v2 : Int32) (v3 : Int32) (h : Hp) (F : kT h v0 = 12 ∧ (((kI h v0 13) ≤ v3 → K (some (.int v2)) h) ∧ (¬ (kI h v0 13) ≤ v3 → (((v1 = 3 → (kT h v0 = 12 ∧ kR h v0 19 = some (rf h v0 19) ∧ kT h (rf h v0 19) = 50 ∧ vp_in v3 (kN h (rf h v0 19)))) ∧ (¬ v1 = 3 → ((v1 = 4 → (kT h v0 = 12 ∧ kR h v0 15 = some (rf h v0 15) ∧ kT h (rf h v0 15) = 51 ∧ vp_in v3 (kN h (rf h v0 15)))) ∧ (¬ v1 = 4 → ((v1 = 5 → (kT h v0 = 12 ∧ kR h v0 20 = some (rf h v0 20) ∧ kT h (rf h v0 20) = 50 ∧ vp_in v3 (kN h (rf h v0 20)))) ∧ (¬ v1 = 5 → ((v1 = 6 → (kT h v0 = 12 ∧ kR h v0 21 = some (rf h v0 21) ∧ kT h (rf h v0 21) = 50 ∧ vp_in v3 (kN h (rf h v0 21)))) ∧ (¬ v1 = 6 → ((v1 = 7 → (kT h v0 = 12 ∧ kR h v0 22 = some (rf h v0 22) ∧ kT h (rf h v0 22) = 50 ∧ vp_in v3 (kN h (rf h v0 22)))) ∧ (¬ v1 = 7 → (kT h v0 = 12 ∧ kR h v0 19 = some (rf h v0 19) ∧ kT h (rf h v0 19) = 50 ∧ vp_in v3 (kN h (rf h v0 19)) ∧ (¬ (kI h (rf h v0 19) (Int32.toNatClampNeg v3)) = (-1) → (kT h v0 = 12 ∧ kR h v0 20 = some (rf h v0 20) ∧ kT h (rf h v0 20) = 50 ∧ vp_in v3 (kN h (rf h v0 20))))))))))))))) ∧ (∀ z1 : Int32, z1 = (if v1 = 3 then (if (kI h (rf h v0 19) (Int32.toNatClampNeg v3)) = (-1) then 0 else 1) else (if v1 = 4 then (kI h (rf h v0 15) (Int32.toNatClampNeg v3)) else (if v1 = 5 then (if (kI h (rf h v0 20) (Int32.toNatClampNeg v3)) = (-1) then 0 else 1) else (if v1 = 6 then (if (kI h (rf h v0 21) (Int32.toNatClampNeg v3)) = (-1) then 0 else 1) else (if v1 = 7 then (if (kI h (rf h v0 22) (Int32.toNatClampNeg v3)) = (-1) then 0 else 1) else (if (kI h (rf h v0 19) (Int32.toNatClampNeg v3)) = (-1) then 0 else (if (kI h (rf h v0 20) (Int32.toNatClampNeg v3)) = (-1) then 1 else 0))))))) → (∀ z2 : Int32, z2 = (if z1 = 0 then 0 else 1) → X G M Q 108 [(0, .ref v0), (1, .int v1), (2, .int (v2 + z2)), (3, .int (v3 + 1))] [] h)))))) : X G M Q 108 [(0, .ref v0), (1, .int v1), (2, .int v2), (3, .int v3)] [] h := by
  refine x_iload_n hM d_Mo_count_108 rfl 3 rfl ?_
  refine x_aload_n hM d_Mo_count_109 rfl 0 rfl ?_
  obtain ⟨c44, F⟩ := F
  refine x_geti hG hM ck_Mo 13 (Nat.le_of_ble_eq_true rfl) rfl rfl w_910 rfl d_Mo_count_110 c44 ?_
  refine x_icmp_ge (tgt := 270) hM d_Mo_count_113 (by decide) (fun q43 => ?_) (fun q43 => ?_)
  · replace F := F.1 q43
    refine x_iload_n hM d_Mo_count_270 rfl 2 rfl ?_
    exact x_ireturn hM d_Mo_count_271 rfl F
  · replace F := F.2 q43
    refine x_iload_n hM d_Mo_count_116 rfl 1 rfl ?_
    refine x_iconst (v := 3) hM d_Mo_count_117 (by decide) ?_
    obtain ⟨S, F⟩ := F
    have JJ : ∀ (z1 : Int32) (ez1 : z1 = (if v1 = 3 then (if (kI h (rf h v0 19) (Int32.toNatClampNeg v3)) = (-1) then 0 else 1) else (if v1 = 4 then (kI h (rf h v0 15) (Int32.toNatClampNeg v3)) else (if v1 = 5 then (if (kI h (rf h v0 20) (Int32.toNatClampNeg v3)) = (-1) then 0 else 1) else (if v1 = 6 then (if (kI h (rf h v0 21) (Int32.toNatClampNeg v3)) = (-1) then 0 else 1) else (if v1 = 7 then (if (kI h (rf h v0 22) (Int32.toNatClampNeg v3)) = (-1) then 0 else 1) else (if (kI h (rf h v0 19) (Int32.toNatClampNeg v3)) = (-1) then 0 else (if (kI h (rf h v0 20) (Int32.toNatClampNeg v3)) = (-1) then 1 else 0)))))))), X G M Q 249 [(0, .ref v0), (1, .int v1), (2, .int v2), (3, .int v3)] [.int z1] h := by
      intro z1 ez1
      replace F := F _ ez1
      refine x_istore (lv2 := [(4, .int z1), (0, .ref v0), (1, .int v1), (2, .int v2), (3, .int v3)]) hM d_Mo_count_249 (Nat.le_of_ble_eq_true rfl) rfl ?_
      refine x_iload_n hM d_Mo_count_251 rfl 3 rfl ?_
      refine x_iload hM d_Mo_count_252 0 rfl ?_
      have JJ : ∀ (z2 : Int32) (ez2 : z2 = (if z1 = 0 then 0 else 1)), X G M Q 262 [(0, .ref v0), (1, .int v1), (3, .int v3)] [.int z2, .int v2] h := by
        intro z2 ez2
        replace F := F _ ez2
        refine x_iadd hM d_Mo_count_262 ?_
        refine x_istore_n (lv2 := [(2, .int (v2 + z2)), (0, .ref v0), (1, .int v1), (3, .int v3)]) hM d_Mo_count_263 rfl (Nat.le_of_ble_eq_true rfl) rfl ?_
        refine x_iinc (v := (v3 + 1)) (lv2 := [(3, .int (v3 + 1)), (2, .int (v2 + z2)), (0, .ref v0), (1, .int v1)]) hM d_Mo_count_264 (j := 3) rfl rfl (Nat.le_of_ble_eq_true rfl) rfl ?_
        refine x_goto (tgt := 108) hM d_Mo_count_267 (by decide) ?_
        refine x_sub [2, 3, 1, 0] rfl ?_
        exact F
      refine x_if_eq (tgt := 261) hM d_Mo_count_254 (by decide) (fun q3 => ?_) (fun q3 => ?_)
      · refine x_iconst (v := 0) hM d_Mo_count_261 (by decide) ?_
        refine x_sub [1, 2, 4] rfl ?_
        exact JJ _ (Eq.symm (if_pos q3))
      · refine x_iconst (v := 1) hM d_Mo_count_257 (by decide) ?_
        refine x_goto (tgt := 262) hM d_Mo_count_258 (by decide) ?_
        refine x_sub [1, 2, 4] rfl ?_
        exact JJ _ (Eq.symm (if_neg q3))
    refine x_icmp_ne (tgt := 139) hM d_Mo_count_118 (by decide) (fun q4 => ?_) (fun q4 => ?_)
    · replace S := S.2 q4
      refine x_iload_n hM d_Mo_count_139 rfl 1 rfl ?_
      refine x_iconst (v := 4) hM d_Mo_count_140 (by decide) ?_
      refine x_icmp_ne (tgt := 153) hM d_Mo_count_141 (by decide) (fun q5 => ?_) (fun q5 => ?_)
      · replace S := S.2 q5
        refine x_iload_n hM d_Mo_count_153 rfl 1 rfl ?_
        refine x_iconst (v := 5) hM d_Mo_count_154 (by decide) ?_
        refine x_icmp_ne (tgt := 176) hM d_Mo_count_155 (by decide) (fun q6 => ?_) (fun q6 => ?_)
        · replace S := S.2 q6
          refine x_iload_n hM d_Mo_count_176 rfl 1 rfl ?_
          refine x_bipush (v := 6) hM d_Mo_count_177 (by decide) ?_
          refine x_icmp_ne (tgt := 200) hM d_Mo_count_179 (by decide) (fun q7 => ?_) (fun q7 => ?_)
          · replace S := S.2 q7
            refine x_iload_n hM d_Mo_count_200 rfl 1 rfl ?_
            refine x_bipush (v := 7) hM d_Mo_count_201 (by decide) ?_
            refine x_icmp_ne (tgt := 224) hM d_Mo_count_203 (by decide) (fun q8 => ?_) (fun q8 => ?_)
            · replace S := S.2 q8
              refine x_aload_n hM d_Mo_count_224 rfl 0 rfl ?_
              obtain ⟨c9, S⟩ := S
              obtain ⟨c10, S⟩ := S
              refine x_getr hG hM ck_Mo 19 (Nat.le_of_ble_eq_true rfl) rfl rfl w_916 rfl d_Mo_count_225 c9 c10 ?_
              refine x_iload_n hM d_Mo_count_228 rfl 3 rfl ?_
              obtain ⟨c11, S⟩ := S
              obtain ⟨c12, S⟩ := S
              refine x_iaload hG hM d_Mo_count_229 c11 c12 ?_
              refine x_iconst (v := (-1)) hM d_Mo_count_230 (by decide) ?_
              refine x_icmp_eq (tgt := 248) hM d_Mo_count_231 (by decide) (fun q13 => ?_) (fun q13 => ?_)
              · refine x_iconst (v := 0) hM d_Mo_count_248 (by decide) ?_
                exact JJ _ (Eq.symm (Eq.trans (if_neg q4) (Eq.trans (if_neg q5) (Eq.trans (if_neg q6) (Eq.trans (if_neg q7) (Eq.trans (if_neg q8) (if_pos q13)))))))
              · replace S := S q13
                refine x_aload_n hM d_Mo_count_234 rfl 0 rfl ?_
                obtain ⟨c14, S⟩ := S
                obtain ⟨c15, S⟩ := S
                refine x_getr hG hM ck_Mo 20 (Nat.le_of_ble_eq_true rfl) rfl rfl w_917 rfl d_Mo_count_235 c14 c15 ?_
                refine x_iload_n hM d_Mo_count_238 rfl 3 rfl ?_
                obtain ⟨c16, S⟩ := S
                have c17 := S
                refine x_iaload hG hM d_Mo_count_239 c16 c17 ?_
                refine x_iconst (v := (-1)) hM d_Mo_count_240 (by decide) ?_
                refine x_icmp_ne (tgt := 248) hM d_Mo_count_241 (by decide) (fun q18 => ?_) (fun q18 => ?_)
                · refine x_iconst (v := 0) hM d_Mo_count_248 (by decide) ?_
                  exact JJ _ (Eq.symm (Eq.trans (if_neg q4) (Eq.trans (if_neg q5) (Eq.trans (if_neg q6) (Eq.trans (if_neg q7) (Eq.trans (if_neg q8) (Eq.trans (if_neg q13) (if_neg q18))))))))
                · refine x_iconst (v := 1) hM d_Mo_count_244 (by decide) ?_
                  refine x_goto (tgt := 249) hM d_Mo_count_245 (by decide) ?_
                  exact JJ _ (Eq.symm (Eq.trans (if_neg q4) (Eq.trans (if_neg q5) (Eq.trans (if_neg q6) (Eq.trans (if_neg q7) (Eq.trans (if_neg q8) (Eq.trans (if_neg q13) (if_pos q18))))))))
            · replace S := S.1 q8
              refine x_aload_n hM d_Mo_count_206 rfl 0 rfl ?_
              obtain ⟨c19, S⟩ := S
              obtain ⟨c20, S⟩ := S
              refine x_getr hG hM ck_Mo 22 (Nat.le_of_ble_eq_true rfl) rfl rfl w_919 rfl d_Mo_count_207 c19 c20 ?_
              refine x_iload_n hM d_Mo_count_210 rfl 3 rfl ?_
              obtain ⟨c21, S⟩ := S
              have c22 := S
              refine x_iaload hG hM d_Mo_count_211 c21 c22 ?_
              refine x_iconst (v := (-1)) hM d_Mo_count_212 (by decide) ?_
              refine x_icmp_eq (tgt := 220) hM d_Mo_count_213 (by decide) (fun q23 => ?_) (fun q23 => ?_)
              · refine x_iconst (v := 0) hM d_Mo_count_220 (by decide) ?_
                refine x_goto (tgt := 249) hM d_Mo_count_221 (by decide) ?_
                exact JJ _ (Eq.symm (Eq.trans (if_neg q4) (Eq.trans (if_neg q5) (Eq.trans (if_neg q6) (Eq.trans (if_neg q7) (Eq.trans (if_pos q8) (if_pos q23)))))))
              · refine x_iconst (v := 1) hM d_Mo_count_216 (by decide) ?_
                refine x_goto (tgt := 249) hM d_Mo_count_217 (by decide) ?_
                exact JJ _ (Eq.symm (Eq.trans (if_neg q4) (Eq.trans (if_neg q5) (Eq.trans (if_neg q6) (Eq.trans (if_neg q7) (Eq.trans (if_pos q8) (if_neg q23)))))))
          · replace S := S.1 q7
            refine x_aload_n hM d_Mo_count_182 rfl 0 rfl ?_
            obtain ⟨c24, S⟩ := S
            obtain ⟨c25, S⟩ := S
            refine x_getr hG hM ck_Mo 21 (Nat.le_of_ble_eq_true rfl) rfl rfl w_918 rfl d_Mo_count_183 c24 c25 ?_
            refine x_iload_n hM d_Mo_count_186 rfl 3 rfl ?_
            obtain ⟨c26, S⟩ := S
            have c27 := S
            refine x_iaload hG hM d_Mo_count_187 c26 c27 ?_
            refine x_iconst (v := (-1)) hM d_Mo_count_188 (by decide) ?_
            refine x_icmp_eq (tgt := 196) hM d_Mo_count_189 (by decide) (fun q28 => ?_) (fun q28 => ?_)
            · refine x_iconst (v := 0) hM d_Mo_count_196 (by decide) ?_
              refine x_goto (tgt := 249) hM d_Mo_count_197 (by decide) ?_
              exact JJ _ (Eq.symm (Eq.trans (if_neg q4) (Eq.trans (if_neg q5) (Eq.trans (if_neg q6) (Eq.trans (if_pos q7) (if_pos q28))))))
            · refine x_iconst (v := 1) hM d_Mo_count_192 (by decide) ?_
              refine x_goto (tgt := 249) hM d_Mo_count_193 (by decide) ?_
              exact JJ _ (Eq.symm (Eq.trans (if_neg q4) (Eq.trans (if_neg q5) (Eq.trans (if_neg q6) (Eq.trans (if_pos q7) (if_neg q28))))))
        · replace S := S.1 q6
          refine x_aload_n hM d_Mo_count_158 rfl 0 rfl ?_
          obtain ⟨c29, S⟩ := S
          obtain ⟨c30, S⟩ := S
          refine x_getr hG hM ck_Mo 20 (Nat.le_of_ble_eq_true rfl) rfl rfl w_917 rfl d_Mo_count_159 c29 c30 ?_
          refine x_iload_n hM d_Mo_count_162 rfl 3 rfl ?_
          obtain ⟨c31, S⟩ := S
          have c32 := S
          refine x_iaload hG hM d_Mo_count_163 c31 c32 ?_
          refine x_iconst (v := (-1)) hM d_Mo_count_164 (by decide) ?_
          refine x_icmp_eq (tgt := 172) hM d_Mo_count_165 (by decide) (fun q33 => ?_) (fun q33 => ?_)
          · refine x_iconst (v := 0) hM d_Mo_count_172 (by decide) ?_
            refine x_goto (tgt := 249) hM d_Mo_count_173 (by decide) ?_
            exact JJ _ (Eq.symm (Eq.trans (if_neg q4) (Eq.trans (if_neg q5) (Eq.trans (if_pos q6) (if_pos q33)))))
          · refine x_iconst (v := 1) hM d_Mo_count_168 (by decide) ?_
            refine x_goto (tgt := 249) hM d_Mo_count_169 (by decide) ?_
            exact JJ _ (Eq.symm (Eq.trans (if_neg q4) (Eq.trans (if_neg q5) (Eq.trans (if_pos q6) (if_neg q33)))))
      · replace S := S.1 q5
        refine x_aload_n hM d_Mo_count_144 rfl 0 rfl ?_
        obtain ⟨c34, S⟩ := S
        obtain ⟨c35, S⟩ := S
        refine x_getr hG hM ck_Mo 15 (Nat.le_of_ble_eq_true rfl) rfl rfl w_912 rfl d_Mo_count_145 c34 c35 ?_
        refine x_iload_n hM d_Mo_count_148 rfl 3 rfl ?_
        obtain ⟨c36, S⟩ := S
        have c37 := S
        refine x_zaload hG hM d_Mo_count_149 c36 c37 ?_
        refine x_goto (tgt := 249) hM d_Mo_count_150 (by decide) ?_
        exact JJ _ (Eq.symm (Eq.trans (if_neg q4) (if_pos q5)))
    · replace S := S.1 q4
      refine x_aload_n hM d_Mo_count_121 rfl 0 rfl ?_
      obtain ⟨c38, S⟩ := S
      obtain ⟨c39, S⟩ := S
      refine x_getr hG hM ck_Mo 19 (Nat.le_of_ble_eq_true rfl) rfl rfl w_916 rfl d_Mo_count_122 c38 c39 ?_
      refine x_iload_n hM d_Mo_count_125 rfl 3 rfl ?_
      obtain ⟨c40, S⟩ := S
      have c41 := S
      refine x_iaload hG hM d_Mo_count_126 c40 c41 ?_
      refine x_iconst (v := (-1)) hM d_Mo_count_127 (by decide) ?_
      refine x_icmp_eq (tgt := 135) hM d_Mo_count_128 (by decide) (fun q42 => ?_) (fun q42 => ?_)
      · refine x_iconst (v := 0) hM d_Mo_count_135 (by decide) ?_
        refine x_goto (tgt := 249) hM d_Mo_count_136 (by decide) ?_
        exact JJ _ (Eq.symm (Eq.trans (if_pos q4) (if_pos q42)))
      · refine x_iconst (v := 1) hM d_Mo_count_131 (by decide) ?_
        refine x_goto (tgt := 249) hM d_Mo_count_132 (by decide) ?_
        exact JJ _ (Eq.symm (Eq.trans (if_pos q4) (if_neg q42)))
set_option maxRecDepth 100000 in
set_option maxHeartbeats 4000000 in
theorem S_Mo_lay_0 {G : Gc} {M : Mc} {Q : State → Prop} {K : Option Value → Hp → Prop} (hG : gok G) (hM : mok G M r_Mo_lay Q K) (v0 : Nat) (h : Hp) (F : kT h v0 = 12 ∧ (((kI h v0 12) = 0 → (kT h v0 = 12 ∧ (∀ h1 : Hp, h1 = wI h v0 12 1 → (kT h1 v0 = 12 ∧ sem G r_Mo_states [.ref v0] h1 (fun u3 h2 => ∃ x4 : Int32, u3 = some (.int x4) ∧ (kT h2 v0 = 12 ∧ (∀ h5 : Hp, h5 = wI h2 v0 13 x4 → X G M Q 23 [(0, .ref v0), (1, .int 0)] [] h5))))))) ∧ (¬ (kI h v0 12) = 0 → K none h))) : X G M Q 0 [(0, .ref v0)] [] h := by
  refine x_aload_n hM d_Mo_lay_0 rfl 0 rfl ?_
  obtain ⟨c10, F⟩ := F
  refine x_geti hG hM ck_Mo 12 (Nat.le_of_ble_eq_true rfl) rfl rfl w_909 rfl d_Mo_lay_1 c10 ?_
  refine x_if_eq (tgt := 8) hM d_Mo_lay_4 (by decide) (fun q9 => ?_) (fun q9 => ?_)
  · replace F := F.1 q9
    refine x_aload_n hM d_Mo_lay_8 rfl 0 rfl ?_
    refine x_iconst (v := 1) hM d_Mo_lay_9 (by decide) ?_
    obtain ⟨c8, F⟩ := F
    replace F := F _ rfl
    refine x_putz hG hM ck_Mo 12 (Nat.le_of_ble_eq_true rfl) rfl rfl w_909 rfl d_Mo_lay_10 (Or.inl rfl) c8 (Or.inr rfl) ?_
    refine x_aload_n hM d_Mo_lay_13 rfl 0 rfl ?_
    refine x_aload_n hM d_Mo_lay_14 rfl 0 rfl ?_
    obtain ⟨c7, F⟩ := F
    refine x_callV hG hM (r' := r_Mo_states) (ci := 11) [] rfl rfl (Nat.le_of_ble_eq_true rfl) yk_Mo_states ⟨Nat.le_of_ble_eq_true rfl, Nat.le_of_ble_eq_true rfl⟩ w_1020 w_1022 ws_Mo_states rfl rfl (Nat.le_of_ble_eq_true rfl) d_Mo_lay_15 c7 (sem_mono F ?_)
    intro u3 h2 F
    obtain ⟨x4, rfl, F⟩ := F
    obtain ⟨c6, F⟩ := F
    replace F := F _ rfl
    refine x_puti hG hM ck_Mo 13 (Nat.le_of_ble_eq_true rfl) rfl rfl w_910 rfl d_Mo_lay_18 (Or.inl rfl) c6 ?_
    refine x_iconst (v := 0) hM d_Mo_lay_21 (by decide) ?_
    refine x_istore_n (lv2 := [(1, .int 0), (0, .ref v0)]) hM d_Mo_lay_22 rfl (Nat.le_of_ble_eq_true rfl) rfl ?_
    refine x_sub [1, 0] rfl ?_
    exact F
  · replace F := F.2 q9
    exact x_return hM d_Mo_lay_7 rfl F
set_option maxRecDepth 100000 in
set_option maxHeartbeats 4000000 in
theorem S_Mo_lay_23 {G : Gc} {M : Mc} {Q : State → Prop} {K : Option Value → Hp → Prop} (hG : gok G) (hM : mok G M r_Mo_lay Q K) (v0 : Nat) (v1 : Int32) (h : Hp) (F : kT h v0 = 12 ∧ (((kI h v0 13) ≤ v1 → X G M Q 147 [(0, .ref v0), (1, .int 0), (2, .int 0)] [] h) ∧ (¬ (kI h v0 13) ≤ v1 → (kT h v0 = 12 ∧ sem G r_Mo_open [.ref v0, .int v1] h (fun u2 h1 => u2 = none ∧ (kT h1 v0 = 12 ∧ kR h1 v0 15 = some (rf h1 v0 15) ∧ (kT h1 v0 = 12 ∧ sem G r_Mo_hold [.ref v0, .int 12] h1 (fun u4 h3 => ∃ x5 : Int32, u4 = some (.int x5) ∧ (kT h3 (rf h1 v0 15) = 51 ∧ vp_in v1 (kN h3 (rf h1 v0 15)) ∧ nb x5 ∧ (∀ h6 : Hp, h6 = wI h3 (rf h1 v0 15) (Int32.toNatClampNeg v1) x5 → (kT h6 v0 = 12 ∧ kR h6 v0 16 = some (rf h6 v0 16) ∧ (kT h6 (rf h6 v0 16) = 50 ∧ vp_in v1 (kN h6 (rf h6 v0 16)) ∧ (∀ h7 : Hp, h7 = wI h6 (rf h6 v0 16) (Int32.toNatClampNeg v1) (-1) → X G M Q 57 [(0, .ref v0), (1, .int v1), (2, .int 0)] [] h7))))))))))))) : X G M Q 23 [(0, .ref v0), (1, .int v1)] [] h := by
  refine x_iload_n hM d_Mo_lay_23 rfl 1 rfl ?_
  refine x_aload_n hM d_Mo_lay_24 rfl 0 rfl ?_
  obtain ⟨c20, F⟩ := F
  refine x_geti hG hM ck_Mo 13 (Nat.le_of_ble_eq_true rfl) rfl rfl w_910 rfl d_Mo_lay_25 c20 ?_
  refine x_icmp_ge (tgt := 143) hM d_Mo_lay_28 (by decide) (fun q19 => ?_) (fun q19 => ?_)
  · replace F := F.1 q19
    refine x_iconst (v := 0) hM d_Mo_lay_143 (by decide) ?_
    refine x_istore_n (lv2 := [(1, .int 0), (0, .ref v0)]) hM d_Mo_lay_144 rfl (Nat.le_of_ble_eq_true rfl) rfl ?_
    refine x_iconst (v := 0) hM d_Mo_lay_145 (by decide) ?_
    refine x_istore_n (lv2 := [(2, .int 0), (1, .int 0), (0, .ref v0)]) hM d_Mo_lay_146 rfl (Nat.le_of_ble_eq_true rfl) rfl ?_
    refine x_sub [2, 1, 0] rfl ?_
    exact F
  · replace F := F.2 q19
    refine x_aload_n hM d_Mo_lay_31 rfl 0 rfl ?_
    refine x_iload_n hM d_Mo_lay_32 rfl 1 rfl ?_
    obtain ⟨c18, F⟩ := F
    refine x_callV hG hM (r' := r_Mo_open) (ci := 11) [.int v1] rfl rfl (Nat.le_of_ble_eq_true rfl) yk_Mo_open ⟨Nat.le_of_ble_eq_true rfl, Nat.le_of_ble_eq_true rfl⟩ w_1092 w_1094 ws_Mo_open rfl rfl (Nat.le_of_ble_eq_true rfl) d_Mo_lay_33 c18 (sem_mono F ?_)
    intro u2 h1 F
    obtain ⟨rfl, F⟩ := F
    refine x_aload_n hM d_Mo_lay_36 rfl 0 rfl ?_
    obtain ⟨c16, F⟩ := F
    obtain ⟨c17, F⟩ := F
    refine x_getr hG hM ck_Mo 15 (Nat.le_of_ble_eq_true rfl) rfl rfl w_912 rfl d_Mo_lay_37 c16 c17 ?_
    refine x_iload_n hM d_Mo_lay_40 rfl 1 rfl ?_
    refine x_aload_n hM d_Mo_lay_41 rfl 0 rfl ?_
    refine x_bipush (v := 12) hM d_Mo_lay_42 (by decide) ?_
    obtain ⟨c15, F⟩ := F
    refine x_callV hG hM (r' := r_Mo_hold) (ci := 11) [.int 12] rfl rfl (Nat.le_of_ble_eq_true rfl) yk_Mo_hold ⟨Nat.le_of_ble_eq_true rfl, Nat.le_of_ble_eq_true rfl⟩ w_1096 w_1098 ws_Mo_hold rfl rfl (Nat.le_of_ble_eq_true rfl) d_Mo_lay_44 c15 (sem_mono F ?_)
    intro u4 h3 F
    obtain ⟨x5, rfl, F⟩ := F
    obtain ⟨c12, F⟩ := F
    obtain ⟨c13, F⟩ := F
    obtain ⟨c14, F⟩ := F
    replace F := F _ rfl
    refine x_zastore hG hM d_Mo_lay_47 c12 c13 c14 ?_
    refine x_aload_n hM d_Mo_lay_48 rfl 0 rfl ?_
    obtain ⟨c10, F⟩ := F
    obtain ⟨c11, F⟩ := F
    refine x_getr hG hM ck_Mo 16 (Nat.le_of_ble_eq_true rfl) rfl rfl w_913 rfl d_Mo_lay_49 c10 c11 ?_
    refine x_iload_n hM d_Mo_lay_52 rfl 1 rfl ?_
    refine x_iconst (v := (-1)) hM d_Mo_lay_53 (by decide) ?_
    obtain ⟨c8, F⟩ := F
    obtain ⟨c9, F⟩ := F
    replace F := F _ rfl
    refine x_iastore hG hM d_Mo_lay_54 c8 c9 ?_
    refine x_iconst (v := 0) hM d_Mo_lay_55 (by decide) ?_
    refine x_istore_n (lv2 := [(2, .int 0), (0, .ref v0), (1, .int v1)]) hM d_Mo_lay_56 rfl (Nat.le_of_ble_eq_true rfl) rfl ?_
    refine x_sub [1, 2, 0] rfl ?_
    exact F
set_option maxRecDepth 100000 in
set_option maxHeartbeats 4000000 in
theorem S_Mo_lay_57 {G : Gc} {M : Mc} {Q : State → Prop} {K : Option Value → Hp → Prop} (hG : gok G) (hM : mok G M r_Mo_lay Q K) (v0 : Nat) (v1 : Int32) (v2 : Int32) (h : Hp) (F : kT h v0 = 12 ∧ (((kI h v0 3) ≤ v2 → X G M Q 23 [(0, .ref v0), (1, .int (v1 + 1))] [] h) ∧ (¬ (kI h v0 3) ≤ v2 → (kT h v0 = 12 ∧ sem G r_Mo_hold [.ref v0, .int v2] h (fun u2 h1 => ∃ x3 : Int32, u2 = some (.int x3) ∧ X G M Q 74 [(0, .ref v0), (1, .int v1), (2, .int v2), (3, .int x3), (4, .int 0)] [] h1))))) : X G M Q 57 [(0, .ref v0), (1, .int v1), (2, .int v2)] [] h := by
  refine x_iload_n hM d_Mo_lay_57 rfl 2 rfl ?_
  refine x_aload_n hM d_Mo_lay_58 rfl 0 rfl ?_
  obtain ⟨c6, F⟩ := F
  refine x_geti hG hM ck_Mo 3 (Nat.le_of_ble_eq_true rfl) rfl rfl w_900 rfl d_Mo_lay_59 c6 ?_
  refine x_icmp_ge (tgt := 137) hM d_Mo_lay_62 (by decide) (fun q5 => ?_) (fun q5 => ?_)
  · replace F := F.1 q5
    refine x_iinc (v := (v1 + 1)) (lv2 := [(1, .int (v1 + 1)), (0, .ref v0), (2, .int v2)]) hM d_Mo_lay_137 (j := 1) rfl rfl (Nat.le_of_ble_eq_true rfl) rfl ?_
    refine x_goto (tgt := 23) hM d_Mo_lay_140 (by decide) ?_
    refine x_sub [1, 0] rfl ?_
    exact F
  · replace F := F.2 q5
    refine x_aload_n hM d_Mo_lay_65 rfl 0 rfl ?_
    refine x_iload_n hM d_Mo_lay_66 rfl 2 rfl ?_
    obtain ⟨c4, F⟩ := F
    refine x_callV hG hM (r' := r_Mo_hold) (ci := 11) [.int v2] rfl rfl (Nat.le_of_ble_eq_true rfl) yk_Mo_hold ⟨Nat.le_of_ble_eq_true rfl, Nat.le_of_ble_eq_true rfl⟩ w_1096 w_1098 ws_Mo_hold rfl rfl (Nat.le_of_ble_eq_true rfl) d_Mo_lay_67 c4 (sem_mono F ?_)
    intro u2 h1 F
    obtain ⟨x3, rfl, F⟩ := F
    refine x_istore_n (lv2 := [(3, .int x3), (0, .ref v0), (1, .int v1), (2, .int v2)]) hM d_Mo_lay_70 rfl (Nat.le_of_ble_eq_true rfl) rfl ?_
    refine x_iconst (v := 0) hM d_Mo_lay_71 (by decide) ?_
    refine x_istore (lv2 := [(4, .int 0), (3, .int x3), (0, .ref v0), (1, .int v1), (2, .int v2)]) hM d_Mo_lay_72 (Nat.le_of_ble_eq_true rfl) rfl ?_
    refine x_sub [2, 3, 4, 1, 0] rfl ?_
    exact F
set_option maxRecDepth 100000 in
set_option maxHeartbeats 4000000 in
theorem S_Mo_lay_74 {G : Gc} {M : Mc} {Q : State → Prop} {K : Option Value → Hp → Prop} (hG : gok G) (hM : mok G M r_Mo_lay Q K) (v0 : Nat) (v1 : Int32) (v2 : Int32) (v3 : Int32) (v4 : Int32) (h : Hp) (F : (3 ≤ v4 → X G M Q 57 [(0, .ref v0), (1, .int v1), (2, .int (v2 + 1))] [] h) ∧ (¬ 3 ≤ v4 → (kT h v0 = 12 ∧ kR h v0 14 = some (rf h v0 14) ∧ ((v3 = 0 → (kT h (rf h v0 14) = 50 ∧ vp_in (((36 * v1) + (3 * v2)) + v4) (kN h (rf h v0 14)) ∧ (∀ h1 : Hp, h1 = wI h (rf h v0 14) (Int32.toNatClampNeg (((36 * v1) + (3 * v2)) + v4)) (-1) → X G M Q 74 [(0, .ref v0), (1, .int v1), (2, .int v2), (3, .int v3), (4, .int (v4 + 1))] [] h1))) ∧ (¬ v3 = 0 → (kT h v0 = 12 ∧ kR h v0 4 = some (rf h v0 4) ∧ (kT h (rf h v0 4) = 50 ∧ vp_in v2 (kN h (rf h v0 4)) ∧ (((kI h (rf h v0 4) (Int32.toNatClampNeg v2)) ≤ v4 → (kT h (rf h v0 14) = 50 ∧ vp_in (((36 * v1) + (3 * v2)) + v4) (kN h (rf h v0 14)) ∧ (∀ h4 : Hp, h4 = wI h (rf h v0 14) (Int32.toNatClampNeg (((36 * v1) + (3 * v2)) + v4)) (-1) → X G M Q 74 [(0, .ref v0), (1, .int v1), (2, .int v2), (3, .int v3), (4, .int (v4 + 1))] [] h4))) ∧ (¬ (kI h (rf h v0 4) (Int32.toNatClampNeg v2)) ≤ v4 → (kT h v0 = 12 ∧ sem G r_Mo_goes [.ref v0, .int ((3 * v2) + v4)] h (fun u8 h7 => ∃ x9 : Int32, u8 = some (.int x9) ∧ (kT h7 (rf h v0 14) = 50 ∧ vp_in (((36 * v1) + (3 * v2)) + v4) (kN h7 (rf h v0 14)) ∧ (∀ h10 : Hp, h10 = wI h7 (rf h v0 14) (Int32.toNatClampNeg (((36 * v1) + (3 * v2)) + v4)) x9 → X G M Q 74 [(0, .ref v0), (1, .int v1), (2, .int v2), (3, .int v3), (4, .int (v4 + 1))] [] h10))))))))))))) : X G M Q 74 [(0, .ref v0), (1, .int v1), (2, .int v2), (3, .int v3), (4, .int v4)] [] h := by
  refine x_iload hM d_Mo_lay_74 4 rfl ?_
  refine x_iconst (v := 3) hM d_Mo_lay_76 (by decide) ?_
  refine x_icmp_ge (tgt := 131) hM d_Mo_lay_77 (by decide) (fun q22 => ?_) (fun q22 => ?_)
  · replace F := F.1 q22
    refine x_iinc (v := (v2 + 1)) (lv2 := [(2, .int (v2 + 1)), (0, .ref v0), (1, .int v1), (3, .int v3), (4, .int v4)]) hM d_Mo_lay_131 (j := 2) rfl rfl (Nat.le_of_ble_eq_true rfl) rfl ?_
    refine x_goto (tgt := 57) hM d_Mo_lay_134 (by decide) ?_
    refine x_sub [1, 2, 0] rfl ?_
    exact F
  · replace F := F.2 q22
    refine x_aload_n hM d_Mo_lay_80 rfl 0 rfl ?_
    obtain ⟨c20, F⟩ := F
    obtain ⟨c21, F⟩ := F
    refine x_getr hG hM ck_Mo 14 (Nat.le_of_ble_eq_true rfl) rfl rfl w_911 rfl d_Mo_lay_81 c20 c21 ?_
    refine x_bipush (v := 36) hM d_Mo_lay_84 (by decide) ?_
    refine x_iload_n hM d_Mo_lay_86 rfl 1 rfl ?_
    refine x_imul hM d_Mo_lay_87 ?_
    refine x_iconst (v := 3) hM d_Mo_lay_88 (by decide) ?_
    refine x_iload_n hM d_Mo_lay_89 rfl 2 rfl ?_
    refine x_imul hM d_Mo_lay_90 ?_
    refine x_iadd hM d_Mo_lay_91 ?_
    refine x_iload hM d_Mo_lay_92 4 rfl ?_
    refine x_iadd hM d_Mo_lay_94 ?_
    refine x_iload_n hM d_Mo_lay_95 rfl 3 rfl ?_
    refine x_if_eq (tgt := 123) hM d_Mo_lay_96 (by decide) (fun q19 => ?_) (fun q19 => ?_)
    · replace F := F.1 q19
      refine x_iconst (v := (-1)) hM d_Mo_lay_123 (by decide) ?_
      obtain ⟨c2, F⟩ := F
      obtain ⟨c3, F⟩ := F
      replace F := F _ rfl
      refine x_iastore hG hM d_Mo_lay_124 c2 c3 ?_
      refine x_iinc (v := (v4 + 1)) (lv2 := [(4, .int (v4 + 1)), (0, .ref v0), (1, .int v1), (2, .int v2), (3, .int v3)]) hM d_Mo_lay_125 (j := 4) rfl rfl (Nat.le_of_ble_eq_true rfl) rfl ?_
      refine x_goto (tgt := 74) hM d_Mo_lay_128 (by decide) ?_
      refine x_sub [1, 2, 3, 4, 0] rfl ?_
      exact F
    · replace F := F.2 q19
      refine x_iload hM d_Mo_lay_99 4 rfl ?_
      refine x_aload_n hM d_Mo_lay_101 rfl 0 rfl ?_
      obtain ⟨c17, F⟩ := F
      obtain ⟨c18, F⟩ := F
      refine x_getr hG hM ck_Mo 4 (Nat.le_of_ble_eq_true rfl) rfl rfl w_901 rfl d_Mo_lay_102 c17 c18 ?_
      refine x_iload_n hM d_Mo_lay_105 rfl 2 rfl ?_
      obtain ⟨c15, F⟩ := F
      obtain ⟨c16, F⟩ := F
      refine x_iaload hG hM d_Mo_lay_106 c15 c16 ?_
      refine x_icmp_ge (tgt := 123) hM d_Mo_lay_107 (by decide) (fun q14 => ?_) (fun q14 => ?_)
      · replace F := F.1 q14
        refine x_iconst (v := (-1)) hM d_Mo_lay_123 (by decide) ?_
        obtain ⟨c5, F⟩ := F
        obtain ⟨c6, F⟩ := F
        replace F := F _ rfl
        refine x_iastore hG hM d_Mo_lay_124 c5 c6 ?_
        refine x_iinc (v := (v4 + 1)) (lv2 := [(4, .int (v4 + 1)), (0, .ref v0), (1, .int v1), (2, .int v2), (3, .int v3)]) hM d_Mo_lay_125 (j := 4) rfl rfl (Nat.le_of_ble_eq_true rfl) rfl ?_
        refine x_goto (tgt := 74) hM d_Mo_lay_128 (by decide) ?_
        refine x_sub [1, 2, 3, 4, 0] rfl ?_
        exact F
      · replace F := F.2 q14
        refine x_aload_n hM d_Mo_lay_110 rfl 0 rfl ?_
        refine x_iconst (v := 3) hM d_Mo_lay_111 (by decide) ?_
        refine x_iload_n hM d_Mo_lay_112 rfl 2 rfl ?_
        refine x_imul hM d_Mo_lay_113 ?_
        refine x_iload hM d_Mo_lay_114 4 rfl ?_
        refine x_iadd hM d_Mo_lay_116 ?_
        obtain ⟨c13, F⟩ := F
        refine x_callV hG hM (r' := r_Mo_goes) (ci := 11) [.int ((3 * v2) + v4)] rfl rfl (Nat.le_of_ble_eq_true rfl) yk_Mo_goes ⟨Nat.le_of_ble_eq_true rfl, Nat.le_of_ble_eq_true rfl⟩ w_1100 w_1102 ws_Mo_goes rfl rfl (Nat.le_of_ble_eq_true rfl) d_Mo_lay_117 c13 (sem_mono F ?_)
        intro u8 h7 F
        obtain ⟨x9, rfl, F⟩ := F
        refine x_goto (tgt := 124) hM d_Mo_lay_120 (by decide) ?_
        obtain ⟨c11, F⟩ := F
        obtain ⟨c12, F⟩ := F
        replace F := F _ rfl
        refine x_iastore hG hM d_Mo_lay_124 c11 c12 ?_
        refine x_iinc (v := (v4 + 1)) (lv2 := [(4, .int (v4 + 1)), (0, .ref v0), (1, .int v1), (2, .int v2), (3, .int v3)]) hM d_Mo_lay_125 (j := 4) rfl rfl (Nat.le_of_ble_eq_true rfl) rfl ?_
        refine x_goto (tgt := 74) hM d_Mo_lay_128 (by decide) ?_
        refine x_sub [1, 2, 3, 4, 0] rfl ?_
        exact F
set_option maxRecDepth 100000 in
set_option maxHeartbeats 4000000 in
theorem S_Mo_lay_147 {G : Gc} {M : Mc} {Q : State → Prop} {K : Option Value → Hp → Prop} (hG : gok G) (hM : mok G M r_Mo_lay Q K) (v0 : Nat) (v1 : Int32) (v2 : Int32) (h : Hp) (F : kT h v0 = 12 ∧ (((kI h v0 13) ≤ v2 → (kT h v0 = 12 ∧ sem G r_Mo_forward [.ref v0] h (fun u2 h1 => u2 = none ∧ (kT h1 v0 = 12 ∧ sem G r_Mo_backward [.ref v0] h1 (fun u4 h3 => u4 = none ∧ (kT h3 v0 = 12 ∧ sem G r_Mo_surely [.ref v0] h3 (fun u6 h5 => u6 = none ∧ (kT h5 v0 = 12 ∧ sem G r_Mo_fairly [.ref v0] h5 (fun u8 h7 => u8 = none ∧ K none h7))))))))) ∧ (¬ (kI h v0 13) ≤ v2 → X G M Q 157 [(0, .ref v0), (1, .int v1), (2, .int v2), (3, .int 0)] [] h))) : X G M Q 147 [(0, .ref v0), (1, .int v1), (2, .int v2)] [] h := by
  refine x_iload_n hM d_Mo_lay_147 rfl 2 rfl ?_
  refine x_aload_n hM d_Mo_lay_148 rfl 0 rfl ?_
  obtain ⟨c14, F⟩ := F
  refine x_geti hG hM ck_Mo 13 (Nat.le_of_ble_eq_true rfl) rfl rfl w_910 rfl d_Mo_lay_149 c14 ?_
  refine x_icmp_ge (tgt := 234) hM d_Mo_lay_152 (by decide) (fun q13 => ?_) (fun q13 => ?_)
  · replace F := F.1 q13
    refine x_aload_n hM d_Mo_lay_234 rfl 0 rfl ?_
    obtain ⟨c12, F⟩ := F
    refine x_callV hG hM (r' := r_Mo_forward) (ci := 11) [] rfl rfl (Nat.le_of_ble_eq_true rfl) yk_Mo_forward ⟨Nat.le_of_ble_eq_true rfl, Nat.le_of_ble_eq_true rfl⟩ w_1116 w_1118 ws_Mo_forward rfl rfl (Nat.le_of_ble_eq_true rfl) d_Mo_lay_235 c12 (sem_mono F ?_)
    intro u2 h1 F
    obtain ⟨rfl, F⟩ := F
    refine x_aload_n hM d_Mo_lay_238 rfl 0 rfl ?_
    obtain ⟨c11, F⟩ := F
    refine x_callV hG hM (r' := r_Mo_backward) (ci := 11) [] rfl rfl (Nat.le_of_ble_eq_true rfl) yk_Mo_backward ⟨Nat.le_of_ble_eq_true rfl, Nat.le_of_ble_eq_true rfl⟩ w_1120 w_1122 ws_Mo_backward rfl rfl (Nat.le_of_ble_eq_true rfl) d_Mo_lay_239 c11 (sem_mono F ?_)
    intro u4 h3 F
    obtain ⟨rfl, F⟩ := F
    refine x_aload_n hM d_Mo_lay_242 rfl 0 rfl ?_
    obtain ⟨c10, F⟩ := F
    refine x_callV hG hM (r' := r_Mo_surely) (ci := 11) [] rfl rfl (Nat.le_of_ble_eq_true rfl) yk_Mo_surely ⟨Nat.le_of_ble_eq_true rfl, Nat.le_of_ble_eq_true rfl⟩ w_1128 w_1130 ws_Mo_surely rfl rfl (Nat.le_of_ble_eq_true rfl) d_Mo_lay_243 c10 (sem_mono F ?_)
    intro u6 h5 F
    obtain ⟨rfl, F⟩ := F
    refine x_aload_n hM d_Mo_lay_246 rfl 0 rfl ?_
    obtain ⟨c9, F⟩ := F
    refine x_callV hG hM (r' := r_Mo_fairly) (ci := 11) [] rfl rfl (Nat.le_of_ble_eq_true rfl) yk_Mo_fairly ⟨Nat.le_of_ble_eq_true rfl, Nat.le_of_ble_eq_true rfl⟩ w_1132 w_1134 ws_Mo_fairly rfl rfl (Nat.le_of_ble_eq_true rfl) d_Mo_lay_247 c9 (sem_mono F ?_)
    intro u8 h7 F
    obtain ⟨rfl, F⟩ := F
    exact x_return hM d_Mo_lay_250 rfl F
  · replace F := F.2 q13
    refine x_iconst (v := 0) hM d_Mo_lay_155 (by decide) ?_
    refine x_istore_n (lv2 := [(3, .int 0), (0, .ref v0), (1, .int v1), (2, .int v2)]) hM d_Mo_lay_156 rfl (Nat.le_of_ble_eq_true rfl) rfl ?_
    refine x_sub [1, 2, 3, 0] rfl ?_
    exact F
set_option maxRecDepth 100000 in
set_option maxHeartbeats 4000000 in
theorem S_Mo_lay_157 {G : Gc} {M : Mc} {Q : State → Prop} {K : Option Value → Hp → Prop} (hG : gok G) (hM : mok G M r_Mo_lay Q K) (v0 : Nat) (v1 : Int32) (v2 : Int32) (v3 : Int32) (h : Hp) (F : kT h v0 = 12 ∧ (((3 * (kI h v0 3)) ≤ v3 → X G M Q 147 [(0, .ref v0), (1, .int v1), (2, .int (v2 + 1))] [] h) ∧ (¬ (3 * (kI h v0 3)) ≤ v3 → (kT h v0 = 12 ∧ kR h v0 14 = some (rf h v0 14) ∧ (kT h (rf h v0 14) = 50 ∧ vp_in ((36 * v2) + v3) (kN h (rf h v0 14)) ∧ (((kI h (rf h v0 14) (Int32.toNatClampNeg ((36 * v2) + v3))) = (-1) → X G M Q 157 [(0, .ref v0), (1, .int v1), (2, .int v2), (3, .int (v3 + 1))] [] h) ∧ (¬ (kI h (rf h v0 14) (Int32.toNatClampNeg ((36 * v2) + v3))) = (-1) → (kT h v0 = 12 ∧ kR h v0 17 = some (rf h v0 17) ∧ (kT h (rf h v0 17) = 50 ∧ vp_in v1 (kN h (rf h v0 17)) ∧ (∀ h1 : Hp, h1 = wI h (rf h v0 17) (Int32.toNatClampNeg v1) ((36 * v2) + v3) → (kT h1 v0 = 12 ∧ kR h1 v0 18 = some (rf h1 v0 18) ∧ (kT h1 v0 = 12 ∧ kR h1 v0 16 = some (rf h1 v0 16) ∧ (kT h1 (rf h1 v0 16) = 50 ∧ vp_in (kI h (rf h v0 14) (Int32.toNatClampNeg ((36 * v2) + v3))) (kN h1 (rf h1 v0 16)) ∧ (kT h1 (rf h1 v0 18) = 50 ∧ vp_in v1 (kN h1 (rf h1 v0 18)) ∧ (∀ h2 : Hp, h2 = wI h1 (rf h1 v0 18) (Int32.toNatClampNeg v1) (kI h1 (rf h1 v0 16) (Int32.toNatClampNeg (kI h (rf h v0 14) (Int32.toNatClampNeg ((36 * v2) + v3))))) → (kT h2 v0 = 12 ∧ kR h2 v0 16 = some (rf h2 v0 16) ∧ (kT h2 (rf h2 v0 16) = 50 ∧ vp_in (kI h (rf h v0 14) (Int32.toNatClampNeg ((36 * v2) + v3))) (kN h2 (rf h2 v0 16)) ∧ (∀ h3 : Hp, h3 = wI h2 (rf h2 v0 16) (Int32.toNatClampNeg (kI h (rf h v0 14) (Int32.toNatClampNeg ((36 * v2) + v3)))) v1 → X G M Q 157 [(0, .ref v0), (1, .int (v1 + 1)), (2, .int v2), (3, .int (v3 + 1))] [] h3)))))))))))))))))) : X G M Q 157 [(0, .ref v0), (1, .int v1), (2, .int v2), (3, .int v3)] [] h := by
  refine x_iload_n hM d_Mo_lay_157 rfl 3 rfl ?_
  refine x_iconst (v := 3) hM d_Mo_lay_158 (by decide) ?_
  refine x_aload_n hM d_Mo_lay_159 rfl 0 rfl ?_
  obtain ⟨c26, F⟩ := F
  refine x_geti hG hM ck_Mo 3 (Nat.le_of_ble_eq_true rfl) rfl rfl w_900 rfl d_Mo_lay_160 c26 ?_
  refine x_imul hM d_Mo_lay_163 ?_
  refine x_icmp_ge (tgt := 228) hM d_Mo_lay_164 (by decide) (fun q25 => ?_) (fun q25 => ?_)
  · replace F := F.1 q25
    refine x_iinc (v := (v2 + 1)) (lv2 := [(2, .int (v2 + 1)), (0, .ref v0), (1, .int v1), (3, .int v3)]) hM d_Mo_lay_228 (j := 2) rfl rfl (Nat.le_of_ble_eq_true rfl) rfl ?_
    refine x_goto (tgt := 147) hM d_Mo_lay_231 (by decide) ?_
    refine x_sub [1, 2, 0] rfl ?_
    exact F
  · replace F := F.2 q25
    refine x_aload_n hM d_Mo_lay_167 rfl 0 rfl ?_
    obtain ⟨c23, F⟩ := F
    obtain ⟨c24, F⟩ := F
    refine x_getr hG hM ck_Mo 14 (Nat.le_of_ble_eq_true rfl) rfl rfl w_911 rfl d_Mo_lay_168 c23 c24 ?_
    refine x_bipush (v := 36) hM d_Mo_lay_171 (by decide) ?_
    refine x_iload_n hM d_Mo_lay_173 rfl 2 rfl ?_
    refine x_imul hM d_Mo_lay_174 ?_
    refine x_iload_n hM d_Mo_lay_175 rfl 3 rfl ?_
    refine x_iadd hM d_Mo_lay_176 ?_
    obtain ⟨c21, F⟩ := F
    obtain ⟨c22, F⟩ := F
    refine x_iaload hG hM d_Mo_lay_177 c21 c22 ?_
    refine x_istore (lv2 := [(4, .int (kI h (rf h v0 14) (Int32.toNatClampNeg ((36 * v2) + v3)))), (0, .ref v0), (1, .int v1), (2, .int v2), (3, .int v3)]) hM d_Mo_lay_178 (Nat.le_of_ble_eq_true rfl) rfl ?_
    refine x_iload hM d_Mo_lay_180 0 rfl ?_
    refine x_iconst (v := (-1)) hM d_Mo_lay_182 (by decide) ?_
    refine x_icmp_eq (tgt := 222) hM d_Mo_lay_183 (by decide) (fun q20 => ?_) (fun q20 => ?_)
    · replace F := F.1 q20
      refine x_iinc (v := (v3 + 1)) (lv2 := [(3, .int (v3 + 1)), (4, .int (kI h (rf h v0 14) (Int32.toNatClampNeg ((36 * v2) + v3)))), (0, .ref v0), (1, .int v1), (2, .int v2)]) hM d_Mo_lay_222 (j := 4) rfl rfl (Nat.le_of_ble_eq_true rfl) rfl ?_
      refine x_goto (tgt := 157) hM d_Mo_lay_225 (by decide) ?_
      refine x_sub [2, 3, 4, 0] rfl ?_
      exact F
    · replace F := F.2 q20
      refine x_aload_n hM d_Mo_lay_186 rfl 1 rfl ?_
      obtain ⟨c18, F⟩ := F
      obtain ⟨c19, F⟩ := F
      refine x_getr hG hM ck_Mo 17 (Nat.le_of_ble_eq_true rfl) rfl rfl w_914 rfl d_Mo_lay_187 c18 c19 ?_
      refine x_iload_n hM d_Mo_lay_190 rfl 2 rfl ?_
      refine x_bipush (v := 36) hM d_Mo_lay_191 (by decide) ?_
      refine x_iload_n hM d_Mo_lay_193 rfl 3 rfl ?_
      refine x_imul hM d_Mo_lay_194 ?_
      refine x_iload_n hM d_Mo_lay_195 rfl 4 rfl ?_
      refine x_iadd hM d_Mo_lay_196 ?_
      obtain ⟨c16, F⟩ := F
      obtain ⟨c17, F⟩ := F
      replace F := F _ rfl
      refine x_iastore hG hM d_Mo_lay_197 c16 c17 ?_
      refine x_aload_n hM d_Mo_lay_198 rfl 1 rfl ?_
      obtain ⟨c14, F⟩ := F
      obtain ⟨c15, F⟩ := F
      refine x_getr hG hM ck_Mo 18 (Nat.le_of_ble_eq_true rfl) rfl rfl w_915 rfl d_Mo_lay_199 c14 c15 ?_
      refine x_iload_n hM d_Mo_lay_202 rfl 2 rfl ?_
      refine x_aload_n hM d_Mo_lay_203 rfl 1 rfl ?_
      obtain ⟨c12, F⟩ := F
      obtain ⟨c13, F⟩ := F
      refine x_getr hG hM ck_Mo 16 (Nat.le_of_ble_eq_true rfl) rfl rfl w_913 rfl d_Mo_lay_204 c12 c13 ?_
      refine x_iload hM d_Mo_lay_207 0 rfl ?_
      obtain ⟨c10, F⟩ := F
      obtain ⟨c11, F⟩ := F
      refine x_iaload hG hM d_Mo_lay_209 c10 c11 ?_
      obtain ⟨c8, F⟩ := F
      obtain ⟨c9, F⟩ := F
      replace F := F _ rfl
      refine x_iastore hG hM d_Mo_lay_210 c8 c9 ?_
      refine x_aload_n hM d_Mo_lay_211 rfl 1 rfl ?_
      obtain ⟨c6, F⟩ := F
      obtain ⟨c7, F⟩ := F
      refine x_getr hG hM ck_Mo 16 (Nat.le_of_ble_eq_true rfl) rfl rfl w_913 rfl d_Mo_lay_212 c6 c7 ?_
      refine x_iload hM d_Mo_lay_215 0 rfl ?_
      refine x_iload_n hM d_Mo_lay_217 rfl 2 rfl ?_
      obtain ⟨c4, F⟩ := F
      obtain ⟨c5, F⟩ := F
      replace F := F _ rfl
      refine x_iastore hG hM d_Mo_lay_218 c4 c5 ?_
      refine x_iinc (v := (v1 + 1)) (lv2 := [(1, .int (v1 + 1)), (4, .int (kI h (rf h v0 14) (Int32.toNatClampNeg ((36 * v2) + v3)))), (0, .ref v0), (2, .int v2), (3, .int v3)]) hM d_Mo_lay_219 (j := 2) rfl rfl (Nat.le_of_ble_eq_true rfl) rfl ?_
      refine x_iinc (v := (v3 + 1)) (lv2 := [(3, .int (v3 + 1)), (1, .int (v1 + 1)), (4, .int (kI h (rf h v0 14) (Int32.toNatClampNeg ((36 * v2) + v3)))), (0, .ref v0), (2, .int v2)]) hM d_Mo_lay_222 (j := 4) rfl rfl (Nat.le_of_ble_eq_true rfl) rfl ?_
      refine x_goto (tgt := 157) hM d_Mo_lay_225 (by decide) ?_
      refine x_sub [3, 1, 4, 0] rfl ?_
      exact F
set_option maxRecDepth 100000 in
set_option maxHeartbeats 4000000 in
theorem S_Mo_forward_0 {G : Gc} {M : Mc} {Q : State → Prop} {K : Option Value → Hp → Prop} (hG : gok G) (hM : mok G M r_Mo_forward Q K) (v0 : Nat) (h : Hp) (F : X G M Q 2 [(0, .ref v0), (1, .int 0)] [] h) : X G M Q 0 [(0, .ref v0)] [] h := by
  refine x_iconst (v := 0) hM d_Mo_forward_0 (by decide) ?_
  refine x_istore_n (lv2 := [(1, .int 0), (0, .ref v0)]) hM d_Mo_forward_1 rfl (Nat.le_of_ble_eq_true rfl) rfl ?_
  refine x_sub [1, 0] rfl ?_
  exact F
set_option maxRecDepth 100000 in
set_option maxHeartbeats 4000000 in
theorem S_Mo_forward_2 {G : Gc} {M : Mc} {Q : State → Prop} {K : Option Value → Hp → Prop} (hG : gok G) (hM : mok G M r_Mo_forward Q K) (v0 : Nat) (v1 : Int32) (h : Hp) (F : kT h v0 = 12 ∧ (((kI h v0 13) ≤ v1 → (kT h v0 = 12 ∧ kR h v0 19 = some (rf h v0 19) ∧ (kT h v0 = 12 ∧ (kT h (rf h v0 19) = 50 ∧ vp_in (kI h v0 2) (kN h (rf h v0 19)) ∧ (∀ h1 : Hp, h1 = wI h (rf h v0 19) (Int32.toNatClampNeg (kI h v0 2)) 0 → (kT h1 v0 = 12 ∧ kR h1 v0 23 = some (rf h1 v0 23) ∧ (kT h1 v0 = 12 ∧ (kT h1 (rf h1 v0 23) = 50 ∧ vp_in 0 (kN h1 (rf h1 v0 23)) ∧ (∀ h2 : Hp, h2 = wI h1 (rf h1 v0 23) (Int32.toNatClampNeg 0) (kI h1 v0 2) → X G M Q 47 [(0, .ref v0), (1, .int 1), (2, .int 0)] [] h2))))))))) ∧ (¬ (kI h v0 13) ≤ v1 → (kT h v0 = 12 ∧ kR h v0 19 = some (rf h v0 19) ∧ (kT h (rf h v0 19) = 50 ∧ vp_in v1 (kN h (rf h v0 19)) ∧ (∀ h13 : Hp, h13 = wI h (rf h v0 19) (Int32.toNatClampNeg v1) (-1) → X G M Q 2 [(0, .ref v0), (1, .int (v1 + 1))] [] h13)))))) : X G M Q 2 [(0, .ref v0), (1, .int v1)] [] h := by
  refine x_iload_n hM d_Mo_forward_2 rfl 1 rfl ?_
  refine x_aload_n hM d_Mo_forward_3 rfl 0 rfl ?_
  obtain ⟨c19, F⟩ := F
  refine x_geti hG hM ck_Mo 13 (Nat.le_of_ble_eq_true rfl) rfl rfl w_910 rfl d_Mo_forward_4 c19 ?_
  refine x_icmp_ge (tgt := 23) hM d_Mo_forward_7 (by decide) (fun q18 => ?_) (fun q18 => ?_)
  · replace F := F.1 q18
    refine x_aload_n hM d_Mo_forward_23 rfl 0 rfl ?_
    obtain ⟨c11, F⟩ := F
    obtain ⟨c12, F⟩ := F
    refine x_getr hG hM ck_Mo 19 (Nat.le_of_ble_eq_true rfl) rfl rfl w_916 rfl d_Mo_forward_24 c11 c12 ?_
    refine x_aload_n hM d_Mo_forward_27 rfl 0 rfl ?_
    obtain ⟨c10, F⟩ := F
    refine x_geti hG hM ck_Mo 2 (Nat.le_of_ble_eq_true rfl) rfl rfl w_899 rfl d_Mo_forward_28 c10 ?_
    refine x_iconst (v := 0) hM d_Mo_forward_31 (by decide) ?_
    obtain ⟨c8, F⟩ := F
    obtain ⟨c9, F⟩ := F
    replace F := F _ rfl
    refine x_iastore hG hM d_Mo_forward_32 c8 c9 ?_
    refine x_aload_n hM d_Mo_forward_33 rfl 0 rfl ?_
    obtain ⟨c6, F⟩ := F
    obtain ⟨c7, F⟩ := F
    refine x_getr hG hM ck_Mo 23 (Nat.le_of_ble_eq_true rfl) rfl rfl w_920 rfl d_Mo_forward_34 c6 c7 ?_
    refine x_iconst (v := 0) hM d_Mo_forward_37 (by decide) ?_
    refine x_aload_n hM d_Mo_forward_38 rfl 0 rfl ?_
    obtain ⟨c5, F⟩ := F
    refine x_geti hG hM ck_Mo 2 (Nat.le_of_ble_eq_true rfl) rfl rfl w_899 rfl d_Mo_forward_39 c5 ?_
    obtain ⟨c3, F⟩ := F
    obtain ⟨c4, F⟩ := F
    replace F := F _ rfl
    refine x_iastore hG hM d_Mo_forward_42 c3 c4 ?_
    refine x_iconst (v := 1) hM d_Mo_forward_43 (by decide) ?_
    refine x_istore_n (lv2 := [(1, .int 1), (0, .ref v0)]) hM d_Mo_forward_44 rfl (Nat.le_of_ble_eq_true rfl) rfl ?_
    refine x_iconst (v := 0) hM d_Mo_forward_45 (by decide) ?_
    refine x_istore_n (lv2 := [(2, .int 0), (1, .int 1), (0, .ref v0)]) hM d_Mo_forward_46 rfl (Nat.le_of_ble_eq_true rfl) rfl ?_
    refine x_sub [2, 1, 0] rfl ?_
    exact F
  · replace F := F.2 q18
    refine x_aload_n hM d_Mo_forward_10 rfl 0 rfl ?_
    obtain ⟨c16, F⟩ := F
    obtain ⟨c17, F⟩ := F
    refine x_getr hG hM ck_Mo 19 (Nat.le_of_ble_eq_true rfl) rfl rfl w_916 rfl d_Mo_forward_11 c16 c17 ?_
    refine x_iload_n hM d_Mo_forward_14 rfl 1 rfl ?_
    refine x_iconst (v := (-1)) hM d_Mo_forward_15 (by decide) ?_
    obtain ⟨c14, F⟩ := F
    obtain ⟨c15, F⟩ := F
    replace F := F _ rfl
    refine x_iastore hG hM d_Mo_forward_16 c14 c15 ?_
    refine x_iinc (v := (v1 + 1)) (lv2 := [(1, .int (v1 + 1)), (0, .ref v0)]) hM d_Mo_forward_17 (j := 1) rfl rfl (Nat.le_of_ble_eq_true rfl) rfl ?_
    refine x_goto (tgt := 2) hM d_Mo_forward_20 (by decide) ?_
    refine x_sub [1, 0] rfl ?_
    exact F
set_option maxRecDepth 100000 in
set_option maxHeartbeats 4000000 in
theorem S_Mo_forward_47 {G : Gc} {M : Mc} {Q : State → Prop} {K : Option Value → Hp → Prop} (hG : gok G) (hM : mok G M r_Mo_forward Q K) (v0 : Nat) (v1 : Int32) (v2 : Int32) (h : Hp) (F : (v1 ≤ v2 → K none h) ∧ (¬ v1 ≤ v2 → (kT h v0 = 12 ∧ kR h v0 23 = some (rf h v0 23) ∧ (kT h (rf h v0 23) = 50 ∧ vp_in v2 (kN h (rf h v0 23)) ∧ X G M Q 62 [(0, .ref v0), (1, .int v1), (2, .int v2), (3, .int (kI h (rf h v0 23) (Int32.toNatClampNeg v2))), (4, .int 0)] [] h)))) : X G M Q 47 [(0, .ref v0), (1, .int v1), (2, .int v2)] [] h := by
  refine x_iload_n hM d_Mo_forward_47 rfl 2 rfl ?_
  refine x_iload_n hM d_Mo_forward_48 rfl 1 rfl ?_
  refine x_icmp_ge (tgt := 142) hM d_Mo_forward_49 (by decide) (fun q5 => ?_) (fun q5 => ?_)
  · replace F := F.1 q5
    exact x_return hM d_Mo_forward_142 rfl F
  · replace F := F.2 q5
    refine x_aload_n hM d_Mo_forward_52 rfl 0 rfl ?_
    obtain ⟨c3, F⟩ := F
    obtain ⟨c4, F⟩ := F
    refine x_getr hG hM ck_Mo 23 (Nat.le_of_ble_eq_true rfl) rfl rfl w_920 rfl d_Mo_forward_53 c3 c4 ?_
    refine x_iload_n hM d_Mo_forward_56 rfl 2 rfl ?_
    obtain ⟨c1, F⟩ := F
    obtain ⟨c2, F⟩ := F
    refine x_iaload hG hM d_Mo_forward_57 c1 c2 ?_
    refine x_istore_n (lv2 := [(3, .int (kI h (rf h v0 23) (Int32.toNatClampNeg v2))), (0, .ref v0), (1, .int v1), (2, .int v2)]) hM d_Mo_forward_58 rfl (Nat.le_of_ble_eq_true rfl) rfl ?_
    refine x_iconst (v := 0) hM d_Mo_forward_59 (by decide) ?_
    refine x_istore (lv2 := [(4, .int 0), (3, .int (kI h (rf h v0 23) (Int32.toNatClampNeg v2))), (0, .ref v0), (1, .int v1), (2, .int v2)]) hM d_Mo_forward_60 (Nat.le_of_ble_eq_true rfl) rfl ?_
    refine x_sub [2, 3, 4, 1, 0] rfl ?_
    exact F
set_option maxRecDepth 100000 in
set_option maxHeartbeats 4000000 in
theorem S_Mo_forward_62 {G : Gc} {M : Mc} {Q : State → Prop} {K : Option Value → Hp → Prop} (hG : gok G) (hM : mok G M r_Mo_forward Q K) (v0 : Nat) (v1 : Int32) (v2 : Int32) (v3 : Int32) (v4 : Int32) (h : Hp) (F : kT h v0 = 12 ∧ (((3 * (kI h v0 3)) ≤ v4 → X G M Q 47 [(0, .ref v0), (1, .int v1), (2, .int (v2 + 1))] [] h) ∧ (¬ (3 * (kI h v0 3)) ≤ v4 → (kT h v0 = 12 ∧ kR h v0 14 = some (rf h v0 14) ∧ (kT h (rf h v0 14) = 50 ∧ vp_in ((36 * v3) + v4) (kN h (rf h v0 14)) ∧ (((kI h (rf h v0 14) (Int32.toNatClampNeg ((36 * v3) + v4))) = (-1) → X G M Q 62 [(0, .ref v0), (1, .int v1), (2, .int v2), (3, .int v3), (4, .int (v4 + 1))] [] h) ∧ (¬ (kI h (rf h v0 14) (Int32.toNatClampNeg ((36 * v3) + v4))) = (-1) → (kT h v0 = 12 ∧ kR h v0 19 = some (rf h v0 19) ∧ (kT h (rf h v0 19) = 50 ∧ vp_in (kI h (rf h v0 14) (Int32.toNatClampNeg ((36 * v3) + v4))) (kN h (rf h v0 19)) ∧ (((kI h (rf h v0 19) (Int32.toNatClampNeg (kI h (rf h v0 14) (Int32.toNatClampNeg ((36 * v3) + v4))))) = (-1) → (kT h v0 = 12 ∧ kR h v0 19 = some (rf h v0 19) ∧ (kT h v0 = 12 ∧ kR h v0 19 = some (rf h v0 19) ∧ (kT h (rf h v0 19) = 50 ∧ vp_in v3 (kN h (rf h v0 19)) ∧ (kT h (rf h v0 19) = 50 ∧ vp_in (kI h (rf h v0 14) (Int32.toNatClampNeg ((36 * v3) + v4))) (kN h (rf h v0 19)) ∧ (∀ h1 : Hp, h1 = wI h (rf h v0 19) (Int32.toNatClampNeg (kI h (rf h v0 14) (Int32.toNatClampNeg ((36 * v3) + v4)))) ((kI h (rf h v0 19) (Int32.toNatClampNeg v3)) + 1) → (kT h1 v0 = 12 ∧ kR h1 v0 23 = some (rf h1 v0 23) ∧ (kT h1 (rf h1 v0 23) = 50 ∧ vp_in v1 (kN h1 (rf h1 v0 23)) ∧ (∀ h2 : Hp, h2 = wI h1 (rf h1 v0 23) (Int32.toNatClampNeg v1) (kI h (rf h v0 14) (Int32.toNatClampNeg ((36 * v3) + v4))) → X G M Q 62 [(0, .ref v0), (1, .int (v1 + 1)), (2, .int v2), (3, .int v3), (4, .int (v4 + 1))] [] h2))))))))) ∧ (¬ (kI h (rf h v0 19) (Int32.toNatClampNeg (kI h (rf h v0 14) (Int32.toNatClampNeg ((36 * v3) + v4))))) = (-1) → X G M Q 62 [(0, .ref v0), (1, .int v1), (2, .int v2), (3, .int v3), (4, .int (v4 + 1))] [] h))))))))))) : X G M Q 62 [(0, .ref v0), (1, .int v1), (2, .int v2), (3, .int v3), (4, .int v4)] [] h := by
  refine x_iload hM d_Mo_forward_62 4 rfl ?_
  refine x_iconst (v := 3) hM d_Mo_forward_64 (by decide) ?_
  refine x_aload_n hM d_Mo_forward_65 rfl 0 rfl ?_
  obtain ⟨c26, F⟩ := F
  refine x_geti hG hM ck_Mo 3 (Nat.le_of_ble_eq_true rfl) rfl rfl w_900 rfl d_Mo_forward_66 c26 ?_
  refine x_imul hM d_Mo_forward_69 ?_
  refine x_icmp_ge (tgt := 136) hM d_Mo_forward_70 (by decide) (fun q25 => ?_) (fun q25 => ?_)
  · replace F := F.1 q25
    refine x_iinc (v := (v2 + 1)) (lv2 := [(2, .int (v2 + 1)), (0, .ref v0), (1, .int v1), (3, .int v3), (4, .int v4)]) hM d_Mo_forward_136 (j := 2) rfl rfl (Nat.le_of_ble_eq_true rfl) rfl ?_
    refine x_goto (tgt := 47) hM d_Mo_forward_139 (by decide) ?_
    refine x_sub [1, 2, 0] rfl ?_
    exact F
  · replace F := F.2 q25
    refine x_aload_n hM d_Mo_forward_73 rfl 0 rfl ?_
    obtain ⟨c23, F⟩ := F
    obtain ⟨c24, F⟩ := F
    refine x_getr hG hM ck_Mo 14 (Nat.le_of_ble_eq_true rfl) rfl rfl w_911 rfl d_Mo_forward_74 c23 c24 ?_
    refine x_bipush (v := 36) hM d_Mo_forward_77 (by decide) ?_
    refine x_iload_n hM d_Mo_forward_79 rfl 3 rfl ?_
    refine x_imul hM d_Mo_forward_80 ?_
    refine x_iload hM d_Mo_forward_81 4 rfl ?_
    refine x_iadd hM d_Mo_forward_83 ?_
    obtain ⟨c21, F⟩ := F
    obtain ⟨c22, F⟩ := F
    refine x_iaload hG hM d_Mo_forward_84 c21 c22 ?_
    refine x_istore (lv2 := [(5, .int (kI h (rf h v0 14) (Int32.toNatClampNeg ((36 * v3) + v4)))), (0, .ref v0), (1, .int v1), (2, .int v2), (3, .int v3), (4, .int v4)]) hM d_Mo_forward_85 (Nat.le_of_ble_eq_true rfl) rfl ?_
    refine x_iload hM d_Mo_forward_87 0 rfl ?_
    refine x_iconst (v := (-1)) hM d_Mo_forward_89 (by decide) ?_
    refine x_icmp_eq (tgt := 130) hM d_Mo_forward_90 (by decide) (fun q20 => ?_) (fun q20 => ?_)
    · replace F := F.1 q20
      refine x_iinc (v := (v4 + 1)) (lv2 := [(4, .int (v4 + 1)), (5, .int (kI h (rf h v0 14) (Int32.toNatClampNeg ((36 * v3) + v4)))), (0, .ref v0), (1, .int v1), (2, .int v2), (3, .int v3)]) hM d_Mo_forward_130 (j := 5) rfl rfl (Nat.le_of_ble_eq_true rfl) rfl ?_
      refine x_goto (tgt := 62) hM d_Mo_forward_133 (by decide) ?_
      refine x_sub [2, 3, 4, 5, 0] rfl ?_
      exact F
    · replace F := F.2 q20
      refine x_aload_n hM d_Mo_forward_93 rfl 1 rfl ?_
      obtain ⟨c18, F⟩ := F
      obtain ⟨c19, F⟩ := F
      refine x_getr hG hM ck_Mo 19 (Nat.le_of_ble_eq_true rfl) rfl rfl w_916 rfl d_Mo_forward_94 c18 c19 ?_
      refine x_iload hM d_Mo_forward_97 0 rfl ?_
      obtain ⟨c16, F⟩ := F
      obtain ⟨c17, F⟩ := F
      refine x_iaload hG hM d_Mo_forward_99 c16 c17 ?_
      refine x_iconst (v := (-1)) hM d_Mo_forward_100 (by decide) ?_
      refine x_icmp_ne (tgt := 130) hM d_Mo_forward_101 (by decide) (fun q15 => ?_) (fun q15 => ?_)
      · replace F := F.2 q15
        refine x_iinc (v := (v4 + 1)) (lv2 := [(4, .int (v4 + 1)), (5, .int (kI h (rf h v0 14) (Int32.toNatClampNeg ((36 * v3) + v4)))), (0, .ref v0), (1, .int v1), (2, .int v2), (3, .int v3)]) hM d_Mo_forward_130 (j := 5) rfl rfl (Nat.le_of_ble_eq_true rfl) rfl ?_
        refine x_goto (tgt := 62) hM d_Mo_forward_133 (by decide) ?_
        refine x_sub [2, 3, 4, 5, 0] rfl ?_
        exact F
      · replace F := F.1 q15
        refine x_aload_n hM d_Mo_forward_104 rfl 1 rfl ?_
        obtain ⟨c13, F⟩ := F
        obtain ⟨c14, F⟩ := F
        refine x_getr hG hM ck_Mo 19 (Nat.le_of_ble_eq_true rfl) rfl rfl w_916 rfl d_Mo_forward_105 c13 c14 ?_
        refine x_iload hM d_Mo_forward_108 0 rfl ?_
        refine x_aload_n hM d_Mo_forward_110 rfl 1 rfl ?_
        obtain ⟨c11, F⟩ := F
        obtain ⟨c12, F⟩ := F
        refine x_getr hG hM ck_Mo 19 (Nat.le_of_ble_eq_true rfl) rfl rfl w_916 rfl d_Mo_forward_111 c11 c12 ?_
        refine x_iload_n hM d_Mo_forward_114 rfl 4 rfl ?_
        obtain ⟨c9, F⟩ := F
        obtain ⟨c10, F⟩ := F
        refine x_iaload hG hM d_Mo_forward_115 c9 c10 ?_
        refine x_iconst (v := 1) hM d_Mo_forward_116 (by decide) ?_
        refine x_iadd hM d_Mo_forward_117 ?_
        obtain ⟨c7, F⟩ := F
        obtain ⟨c8, F⟩ := F
        replace F := F _ rfl
        refine x_iastore hG hM d_Mo_forward_118 c7 c8 ?_
        refine x_aload_n hM d_Mo_forward_119 rfl 1 rfl ?_
        obtain ⟨c5, F⟩ := F
        obtain ⟨c6, F⟩ := F
        refine x_getr hG hM ck_Mo 23 (Nat.le_of_ble_eq_true rfl) rfl rfl w_920 rfl d_Mo_forward_120 c5 c6 ?_
        refine x_iload_n hM d_Mo_forward_123 rfl 2 rfl ?_
        refine x_iload hM d_Mo_forward_124 0 rfl ?_
        obtain ⟨c3, F⟩ := F
        obtain ⟨c4, F⟩ := F
        replace F := F _ rfl
        refine x_iastore hG hM d_Mo_forward_126 c3 c4 ?_
        refine x_iinc (v := (v1 + 1)) (lv2 := [(1, .int (v1 + 1)), (5, .int (kI h (rf h v0 14) (Int32.toNatClampNeg ((36 * v3) + v4)))), (0, .ref v0), (2, .int v2), (3, .int v3), (4, .int v4)]) hM d_Mo_forward_127 (j := 2) rfl rfl (Nat.le_of_ble_eq_true rfl) rfl ?_
        refine x_iinc (v := (v4 + 1)) (lv2 := [(4, .int (v4 + 1)), (1, .int (v1 + 1)), (5, .int (kI h (rf h v0 14) (Int32.toNatClampNeg ((36 * v3) + v4)))), (0, .ref v0), (2, .int v2), (3, .int v3)]) hM d_Mo_forward_130 (j := 5) rfl rfl (Nat.le_of_ble_eq_true rfl) rfl ?_
        refine x_goto (tgt := 62) hM d_Mo_forward_133 (by decide) ?_
        refine x_sub [3, 1, 4, 5, 0] rfl ?_
        exact F
set_option maxRecDepth 100000 in
set_option maxHeartbeats 4000000 in
theorem S_Mo_backward_0 {G : Gc} {M : Mc} {Q : State → Prop} {K : Option Value → Hp → Prop} (hG : gok G) (hM : mok G M r_Mo_backward Q K) (v0 : Nat) (h : Hp) (F : kT h v0 = 12 ∧ kR h v0 20 = some (rf h v0 20) ∧ (kT h v0 = 12 ∧ sem G r_Mo_aims [.ref v0, .ref (rf h v0 20)] h (fun u2 h1 => ∃ x3 : Int32, u2 = some (.int x3) ∧ X G M Q 11 [(0, .ref v0), (1, .int x3), (2, .int 0)] [] h1))) : X G M Q 0 [(0, .ref v0)] [] h := by
  refine x_aload_n hM d_Mo_backward_0 rfl 0 rfl ?_
  refine x_aload_n hM d_Mo_backward_1 rfl 0 rfl ?_
  obtain ⟨c5, F⟩ := F
  obtain ⟨c6, F⟩ := F
  refine x_getr hG hM ck_Mo 20 (Nat.le_of_ble_eq_true rfl) rfl rfl w_917 rfl d_Mo_backward_2 c5 c6 ?_
  obtain ⟨c4, F⟩ := F
  refine x_callV hG hM (r' := r_Mo_aims) (ci := 11) [.ref (rf h v0 20)] rfl rfl (Nat.le_of_ble_eq_true rfl) yk_Mo_aims ⟨Nat.le_of_ble_eq_true rfl, Nat.le_of_ble_eq_true rfl⟩ w_1124 w_1126 ws_Mo_aims rfl rfl (Nat.le_of_ble_eq_true rfl) d_Mo_backward_5 c4 (sem_mono F ?_)
  intro u2 h1 F
  obtain ⟨x3, rfl, F⟩ := F
  refine x_istore_n (lv2 := [(1, .int x3), (0, .ref v0)]) hM d_Mo_backward_8 rfl (Nat.le_of_ble_eq_true rfl) rfl ?_
  refine x_iconst (v := 0) hM d_Mo_backward_9 (by decide) ?_
  refine x_istore_n (lv2 := [(2, .int 0), (1, .int x3), (0, .ref v0)]) hM d_Mo_backward_10 rfl (Nat.le_of_ble_eq_true rfl) rfl ?_
  refine x_sub [2, 1, 0] rfl ?_
  exact F
set_option maxRecDepth 100000 in
set_option maxHeartbeats 4000000 in
theorem S_Mo_backward_11 {G : Gc} {M : Mc} {Q : State → Prop} {K : Option Value → Hp → Prop} (hG : gok G) (hM : mok G M r_Mo_backward Q K) (v0 : Nat) (v1 : Int32) (v2 : Int32) (h : Hp) (F : (v1 ≤ v2 → K none h) ∧ (¬ v1 ≤ v2 → (kT h v0 = 12 ∧ kR h v0 16 = some (rf h v0 16) ∧ (kT h v0 = 12 ∧ kR h v0 23 = some (rf h v0 23) ∧ (kT h (rf h v0 23) = 50 ∧ vp_in v2 (kN h (rf h v0 23)) ∧ (kT h (rf h v0 16) = 50 ∧ vp_in (kI h (rf h v0 23) (Int32.toNatClampNeg v2)) (kN h (rf h v0 16)) ∧ X G M Q 28 [(0, .ref v0), (1, .int v1), (2, .int v2), (3, .int (kI h (rf h v0 16) (Int32.toNatClampNeg (kI h (rf h v0 23) (Int32.toNatClampNeg v2)))))] [] h)))))) : X G M Q 11 [(0, .ref v0), (1, .int v1), (2, .int v2)] [] h := by
  refine x_iload_n hM d_Mo_backward_11 rfl 2 rfl ?_
  refine x_iload_n hM d_Mo_backward_12 rfl 1 rfl ?_
  refine x_icmp_ge (tgt := 102) hM d_Mo_backward_13 (by decide) (fun q9 => ?_) (fun q9 => ?_)
  · replace F := F.1 q9
    exact x_return hM d_Mo_backward_102 rfl F
  · replace F := F.2 q9
    refine x_aload_n hM d_Mo_backward_16 rfl 0 rfl ?_
    obtain ⟨c7, F⟩ := F
    obtain ⟨c8, F⟩ := F
    refine x_getr hG hM ck_Mo 16 (Nat.le_of_ble_eq_true rfl) rfl rfl w_913 rfl d_Mo_backward_17 c7 c8 ?_
    refine x_aload_n hM d_Mo_backward_20 rfl 0 rfl ?_
    obtain ⟨c5, F⟩ := F
    obtain ⟨c6, F⟩ := F
    refine x_getr hG hM ck_Mo 23 (Nat.le_of_ble_eq_true rfl) rfl rfl w_920 rfl d_Mo_backward_21 c5 c6 ?_
    refine x_iload_n hM d_Mo_backward_24 rfl 2 rfl ?_
    obtain ⟨c3, F⟩ := F
    obtain ⟨c4, F⟩ := F
    refine x_iaload hG hM d_Mo_backward_25 c3 c4 ?_
    obtain ⟨c1, F⟩ := F
    obtain ⟨c2, F⟩ := F
    refine x_iaload hG hM d_Mo_backward_26 c1 c2 ?_
    refine x_istore_n (lv2 := [(3, .int (kI h (rf h v0 16) (Int32.toNatClampNeg (kI h (rf h v0 23) (Int32.toNatClampNeg v2))))), (0, .ref v0), (1, .int v1), (2, .int v2)]) hM d_Mo_backward_27 rfl (Nat.le_of_ble_eq_true rfl) rfl ?_
    refine x_sub [1, 2, 3, 0] rfl ?_
    exact F
set_option maxRecDepth 100000 in
set_option maxHeartbeats 4000000 in
theorem S_Mo_backward_28 {G : Gc} {M : Mc} {Q : State → Prop} {K : Option Value → Hp → Prop} (hG : gok G) (hM : mok G M r_Mo_backward Q K) (v0 : Nat) (v1 : Int32) (v2 : Int32) (v3 : Int32) (h : Hp) (F : (v3 = (-1) → X G M Q 11 [(0, .ref v0), (1, .int v1), (2, .int (v2 + 1))] [] h) ∧ (¬ v3 = (-1) → (kT h v0 = 12 ∧ kR h v0 17 = some (rf h v0 17) ∧ (kT h (rf h v0 17) = 50 ∧ vp_in v3 (kN h (rf h v0 17)) ∧ (kT h v0 = 12 ∧ kR h v0 20 = some (rf h v0 20) ∧ (kT h (rf h v0 20) = 50 ∧ vp_in ((kI h (rf h v0 17) (Int32.toNatClampNeg v3)) / 36) (kN h (rf h v0 20)) ∧ (((kI h (rf h v0 20) (Int32.toNatClampNeg ((kI h (rf h v0 17) (Int32.toNatClampNeg v3)) / 36))) = (-1) → (kT h v0 = 12 ∧ kR h v0 20 = some (rf h v0 20) ∧ (kT h v0 = 12 ∧ kR h v0 20 = some (rf h v0 20) ∧ (kT h v0 = 12 ∧ kR h v0 23 = some (rf h v0 23) ∧ (kT h (rf h v0 23) = 50 ∧ vp_in v2 (kN h (rf h v0 23)) ∧ (kT h (rf h v0 20) = 50 ∧ vp_in (kI h (rf h v0 23) (Int32.toNatClampNeg v2)) (kN h (rf h v0 20)) ∧ (kT h (rf h v0 20) = 50 ∧ vp_in ((kI h (rf h v0 17) (Int32.toNatClampNeg v3)) / 36) (kN h (rf h v0 20)) ∧ (∀ h5 : Hp, h5 = wI h (rf h v0 20) (Int32.toNatClampNeg ((kI h (rf h v0 17) (Int32.toNatClampNeg v3)) / 36)) ((kI h (rf h v0 20) (Int32.toNatClampNeg (kI h (rf h v0 23) (Int32.toNatClampNeg v2)))) + 1) → (kT h5 v0 = 12 ∧ kR h5 v0 23 = some (rf h5 v0 23) ∧ (kT h5 (rf h5 v0 23) = 50 ∧ vp_in v1 (kN h5 (rf h5 v0 23)) ∧ (∀ h6 : Hp, h6 = wI h5 (rf h5 v0 23) (Int32.toNatClampNeg v1) ((kI h (rf h v0 17) (Int32.toNatClampNeg v3)) / 36) → (kT h6 v0 = 12 ∧ kR h6 v0 18 = some (rf h6 v0 18) ∧ (kT h6 (rf h6 v0 18) = 50 ∧ vp_in v3 (kN h6 (rf h6 v0 18)) ∧ X G M Q 28 [(0, .ref v0), (1, .int (v1 + 1)), (2, .int v2), (3, .int (kI h6 (rf h6 v0 18) (Int32.toNatClampNeg v3)))] [] h6))))))))))))) ∧ (¬ (kI h (rf h v0 20) (Int32.toNatClampNeg ((kI h (rf h v0 17) (Int32.toNatClampNeg v3)) / 36))) = (-1) → (kT h v0 = 12 ∧ kR h v0 18 = some (rf h v0 18) ∧ (kT h (rf h v0 18) = 50 ∧ vp_in v3 (kN h (rf h v0 18)) ∧ X G M Q 28 [(0, .ref v0), (1, .int v1), (2, .int v2), (3, .int (kI h (rf h v0 18) (Int32.toNatClampNeg v3)))] [] h)))))))))) : X G M Q 28 [(0, .ref v0), (1, .int v1), (2, .int v2), (3, .int v3)] [] h := by
  refine x_iload_n hM d_Mo_backward_28 rfl 3 rfl ?_
  refine x_iconst (v := (-1)) hM d_Mo_backward_29 (by decide) ?_
  refine x_icmp_eq (tgt := 96) hM d_Mo_backward_30 (by decide) (fun q36 => ?_) (fun q36 => ?_)
  · replace F := F.1 q36
    refine x_iinc (v := (v2 + 1)) (lv2 := [(2, .int (v2 + 1)), (0, .ref v0), (1, .int v1), (3, .int v3)]) hM d_Mo_backward_96 (j := 2) rfl rfl (Nat.le_of_ble_eq_true rfl) rfl ?_
    refine x_goto (tgt := 11) hM d_Mo_backward_99 (by decide) ?_
    refine x_sub [1, 2, 0] rfl ?_
    exact F
  · replace F := F.2 q36
    refine x_aload_n hM d_Mo_backward_33 rfl 0 rfl ?_
    obtain ⟨c34, F⟩ := F
    obtain ⟨c35, F⟩ := F
    refine x_getr hG hM ck_Mo 17 (Nat.le_of_ble_eq_true rfl) rfl rfl w_914 rfl d_Mo_backward_34 c34 c35 ?_
    refine x_iload_n hM d_Mo_backward_37 rfl 3 rfl ?_
    obtain ⟨c32, F⟩ := F
    obtain ⟨c33, F⟩ := F
    refine x_iaload hG hM d_Mo_backward_38 c32 c33 ?_
    refine x_bipush (v := 36) hM d_Mo_backward_39 (by decide) ?_
    refine x_idiv hM d_Mo_backward_41 (by decide) ?_
    refine x_istore (lv2 := [(4, .int ((kI h (rf h v0 17) (Int32.toNatClampNeg v3)) / 36)), (0, .ref v0), (1, .int v1), (2, .int v2), (3, .int v3)]) hM d_Mo_backward_42 (Nat.le_of_ble_eq_true rfl) rfl ?_
    refine x_aload_n hM d_Mo_backward_44 rfl 1 rfl ?_
    obtain ⟨c30, F⟩ := F
    obtain ⟨c31, F⟩ := F
    refine x_getr hG hM ck_Mo 20 (Nat.le_of_ble_eq_true rfl) rfl rfl w_917 rfl d_Mo_backward_45 c30 c31 ?_
    refine x_iload hM d_Mo_backward_48 0 rfl ?_
    obtain ⟨c28, F⟩ := F
    obtain ⟨c29, F⟩ := F
    refine x_iaload hG hM d_Mo_backward_50 c28 c29 ?_
    refine x_iconst (v := (-1)) hM d_Mo_backward_51 (by decide) ?_
    refine x_icmp_ne (tgt := 86) hM d_Mo_backward_52 (by decide) (fun q27 => ?_) (fun q27 => ?_)
    · replace F := F.2 q27
      refine x_aload_n hM d_Mo_backward_86 rfl 1 rfl ?_
      obtain ⟨c3, F⟩ := F
      obtain ⟨c4, F⟩ := F
      refine x_getr hG hM ck_Mo 18 (Nat.le_of_ble_eq_true rfl) rfl rfl w_915 rfl d_Mo_backward_87 c3 c4 ?_
      refine x_iload_n hM d_Mo_backward_90 rfl 4 rfl ?_
      obtain ⟨c1, F⟩ := F
      obtain ⟨c2, F⟩ := F
      refine x_iaload hG hM d_Mo_backward_91 c1 c2 ?_
      refine x_istore_n (lv2 := [(3, .int (kI h (rf h v0 18) (Int32.toNatClampNeg v3))), (4, .int ((kI h (rf h v0 17) (Int32.toNatClampNeg v3)) / 36)), (0, .ref v0), (1, .int v1), (2, .int v2)]) hM d_Mo_backward_92 rfl (Nat.le_of_ble_eq_true rfl) rfl ?_
      refine x_goto (tgt := 28) hM d_Mo_backward_93 (by decide) ?_
      refine x_sub [2, 3, 4, 0] rfl ?_
      exact F
    · replace F := F.1 q27
      refine x_aload_n hM d_Mo_backward_55 rfl 1 rfl ?_
      obtain ⟨c25, F⟩ := F
      obtain ⟨c26, F⟩ := F
      refine x_getr hG hM ck_Mo 20 (Nat.le_of_ble_eq_true rfl) rfl rfl w_917 rfl d_Mo_backward_56 c25 c26 ?_
      refine x_iload hM d_Mo_backward_59 0 rfl ?_
      refine x_aload_n hM d_Mo_backward_61 rfl 1 rfl ?_
      obtain ⟨c23, F⟩ := F
      obtain ⟨c24, F⟩ := F
      refine x_getr hG hM ck_Mo 20 (Nat.le_of_ble_eq_true rfl) rfl rfl w_917 rfl d_Mo_backward_62 c23 c24 ?_
      refine x_aload_n hM d_Mo_backward_65 rfl 1 rfl ?_
      obtain ⟨c21, F⟩ := F
      obtain ⟨c22, F⟩ := F
      refine x_getr hG hM ck_Mo 23 (Nat.le_of_ble_eq_true rfl) rfl rfl w_920 rfl d_Mo_backward_66 c21 c22 ?_
      refine x_iload_n hM d_Mo_backward_69 rfl 3 rfl ?_
      obtain ⟨c19, F⟩ := F
      obtain ⟨c20, F⟩ := F
      refine x_iaload hG hM d_Mo_backward_70 c19 c20 ?_
      obtain ⟨c17, F⟩ := F
      obtain ⟨c18, F⟩ := F
      refine x_iaload hG hM d_Mo_backward_71 c17 c18 ?_
      refine x_iconst (v := 1) hM d_Mo_backward_72 (by decide) ?_
      refine x_iadd hM d_Mo_backward_73 ?_
      obtain ⟨c15, F⟩ := F
      obtain ⟨c16, F⟩ := F
      replace F := F _ rfl
      refine x_iastore hG hM d_Mo_backward_74 c15 c16 ?_
      refine x_aload_n hM d_Mo_backward_75 rfl 1 rfl ?_
      obtain ⟨c13, F⟩ := F
      obtain ⟨c14, F⟩ := F
      refine x_getr hG hM ck_Mo 23 (Nat.le_of_ble_eq_true rfl) rfl rfl w_920 rfl d_Mo_backward_76 c13 c14 ?_
      refine x_iload_n hM d_Mo_backward_79 rfl 2 rfl ?_
      refine x_iload hM d_Mo_backward_80 0 rfl ?_
      obtain ⟨c11, F⟩ := F
      obtain ⟨c12, F⟩ := F
      replace F := F _ rfl
      refine x_iastore hG hM d_Mo_backward_82 c11 c12 ?_
      refine x_iinc (v := (v1 + 1)) (lv2 := [(1, .int (v1 + 1)), (4, .int ((kI h (rf h v0 17) (Int32.toNatClampNeg v3)) / 36)), (0, .ref v0), (2, .int v2), (3, .int v3)]) hM d_Mo_backward_83 (j := 2) rfl rfl (Nat.le_of_ble_eq_true rfl) rfl ?_
      refine x_aload_n hM d_Mo_backward_86 rfl 2 rfl ?_
      obtain ⟨c9, F⟩ := F
      obtain ⟨c10, F⟩ := F
      refine x_getr hG hM ck_Mo 18 (Nat.le_of_ble_eq_true rfl) rfl rfl w_915 rfl d_Mo_backward_87 c9 c10 ?_
      refine x_iload_n hM d_Mo_backward_90 rfl 4 rfl ?_
      obtain ⟨c7, F⟩ := F
      obtain ⟨c8, F⟩ := F
      refine x_iaload hG hM d_Mo_backward_91 c7 c8 ?_
      refine x_istore_n (lv2 := [(3, .int (kI h6 (rf h6 v0 18) (Int32.toNatClampNeg v3))), (1, .int (v1 + 1)), (4, .int ((kI h (rf h v0 17) (Int32.toNatClampNeg v3)) / 36)), (0, .ref v0), (2, .int v2)]) hM d_Mo_backward_92 rfl (Nat.le_of_ble_eq_true rfl) rfl ?_
      refine x_goto (tgt := 28) hM d_Mo_backward_93 (by decide) ?_
      refine x_sub [3, 1, 4, 0] rfl ?_
      exact F
set_option maxRecDepth 100000 in
set_option maxHeartbeats 4000000 in
theorem S_Mo_aims_0 {G : Gc} {M : Mc} {Q : State → Prop} {K : Option Value → Hp → Prop} (hG : gok G) (hM : mok G M r_Mo_aims Q K) (v0 : Nat) (v1 : Nat) (h : Hp) (F : X G M Q 4 [(0, .ref v0), (1, .ref v1), (2, .int 0), (3, .int 0)] [] h) : X G M Q 0 [(0, .ref v0), (1, .ref v1)] [] h := by
  refine x_iconst (v := 0) hM d_Mo_aims_0 (by decide) ?_
  refine x_istore_n (lv2 := [(2, .int 0), (0, .ref v0), (1, .ref v1)]) hM d_Mo_aims_1 rfl (Nat.le_of_ble_eq_true rfl) rfl ?_
  refine x_iconst (v := 0) hM d_Mo_aims_2 (by decide) ?_
  refine x_istore_n (lv2 := [(3, .int 0), (2, .int 0), (0, .ref v0), (1, .ref v1)]) hM d_Mo_aims_3 rfl (Nat.le_of_ble_eq_true rfl) rfl ?_
  refine x_sub [2, 3, 1, 0] rfl ?_
  exact F
set_option maxRecDepth 100000 in
set_option maxHeartbeats 4000000 in
theorem S_Mo_aims_4 {G : Gc} {M : Mc} {Q : State → Prop} {K : Option Value → Hp → Prop} (hG : gok G) (hM : mok G M r_Mo_aims Q K) (v0 : Nat) (v1 : Nat) (v2 : Int32) (v3 : Int32) (h : Hp) (F : kT h v0 = 12 ∧ (((kI h v0 13) ≤ v3 → K (some (.int v2)) h) ∧ (¬ (kI h v0 13) ≤ v3 → (kT h v0 = 12 ∧ kR h v0 15 = some (rf h v0 15) ∧ (kT h (rf h v0 15) = 51 ∧ vp_in v3 (kN h (rf h v0 15)) ∧ (∀ z1 : Int32, z1 = (if (kI h (rf h v0 15) (Int32.toNatClampNeg v3)) = 0 then (-1) else 0) → (kT h v1 = 50 ∧ vp_in v3 (kN h v1) ∧ (∀ h2 : Hp, h2 = wI h v1 (Int32.toNatClampNeg v3) z1 → (kT h2 v0 = 12 ∧ kR h2 v0 15 = some (rf h2 v0 15) ∧ (kT h2 (rf h2 v0 15) = 51 ∧ vp_in v3 (kN h2 (rf h2 v0 15)) ∧ (((kI h2 (rf h2 v0 15) (Int32.toNatClampNeg v3)) = 0 → X G M Q 4 [(0, .ref v0), (1, .ref v1), (2, .int v2), (3, .int (v3 + 1))] [] h2) ∧ (¬ (kI h2 (rf h2 v0 15) (Int32.toNatClampNeg v3)) = 0 → (kT h2 v0 = 12 ∧ kR h2 v0 23 = some (rf h2 v0 23) ∧ (kT h2 (rf h2 v0 23) = 50 ∧ vp_in v2 (kN h2 (rf h2 v0 23)) ∧ (∀ h3 : Hp, h3 = wI h2 (rf h2 v0 23) (Int32.toNatClampNeg v2) v3 → X G M Q 4 [(0, .ref v0), (1, .ref v1), (2, .int (v2 + 1)), (3, .int (v3 + 1))] [] h3))))))))))))))) : X G M Q 4 [(0, .ref v0), (1, .ref v1), (2, .int v2), (3, .int v3)] [] h := by
  refine x_iload_n hM d_Mo_aims_4 rfl 3 rfl ?_
  refine x_aload_n hM d_Mo_aims_5 rfl 0 rfl ?_
  obtain ⟨c21, F⟩ := F
  refine x_geti hG hM ck_Mo 13 (Nat.le_of_ble_eq_true rfl) rfl rfl w_910 rfl d_Mo_aims_6 c21 ?_
  refine x_icmp_ge (tgt := 54) hM d_Mo_aims_9 (by decide) (fun q20 => ?_) (fun q20 => ?_)
  · replace F := F.1 q20
    refine x_iload_n hM d_Mo_aims_54 rfl 2 rfl ?_
    exact x_ireturn hM d_Mo_aims_55 rfl F
  · replace F := F.2 q20
    refine x_aload_n hM d_Mo_aims_12 rfl 1 rfl ?_
    refine x_iload_n hM d_Mo_aims_13 rfl 3 rfl ?_
    refine x_aload_n hM d_Mo_aims_14 rfl 0 rfl ?_
    obtain ⟨c18, F⟩ := F
    obtain ⟨c19, F⟩ := F
    refine x_getr hG hM ck_Mo 15 (Nat.le_of_ble_eq_true rfl) rfl rfl w_912 rfl d_Mo_aims_15 c18 c19 ?_
    refine x_iload_n hM d_Mo_aims_18 rfl 3 rfl ?_
    obtain ⟨c16, F⟩ := F
    obtain ⟨c17, F⟩ := F
    refine x_zaload hG hM d_Mo_aims_19 c16 c17 ?_
    have JJ : ∀ (z1 : Int32) (ez1 : z1 = (if (kI h (rf h v0 15) (Int32.toNatClampNeg v3)) = 0 then (-1) else 0)), X G M Q 28 [(0, .ref v0), (1, .ref v1), (2, .int v2), (3, .int v3)] [.int z1, .int v3, .ref v1] h := by
      intro z1 ez1
      replace F := F _ ez1
      obtain ⟨c13, F⟩ := F
      obtain ⟨c14, F⟩ := F
      replace F := F _ rfl
      refine x_iastore hG hM d_Mo_aims_28 c13 c14 ?_
      refine x_aload_n hM d_Mo_aims_29 rfl 0 rfl ?_
      obtain ⟨c11, F⟩ := F
      obtain ⟨c12, F⟩ := F
      refine x_getr hG hM ck_Mo 15 (Nat.le_of_ble_eq_true rfl) rfl rfl w_912 rfl d_Mo_aims_30 c11 c12 ?_
      refine x_iload_n hM d_Mo_aims_33 rfl 3 rfl ?_
      obtain ⟨c9, F⟩ := F
      obtain ⟨c10, F⟩ := F
      refine x_zaload hG hM d_Mo_aims_34 c9 c10 ?_
      refine x_if_eq (tgt := 48) hM d_Mo_aims_35 (by decide) (fun q8 => ?_) (fun q8 => ?_)
      · replace F := F.1 q8
        refine x_iinc (v := (v3 + 1)) (lv2 := [(3, .int (v3 + 1)), (0, .ref v0), (1, .ref v1), (2, .int v2)]) hM d_Mo_aims_48 (j := 3) rfl rfl (Nat.le_of_ble_eq_true rfl) rfl ?_
        refine x_goto (tgt := 4) hM d_Mo_aims_51 (by decide) ?_
        refine x_sub [1, 2, 3, 0] rfl ?_
        exact F
      · replace F := F.2 q8
        refine x_aload_n hM d_Mo_aims_38 rfl 0 rfl ?_
        obtain ⟨c6, F⟩ := F
        obtain ⟨c7, F⟩ := F
        refine x_getr hG hM ck_Mo 23 (Nat.le_of_ble_eq_true rfl) rfl rfl w_920 rfl d_Mo_aims_39 c6 c7 ?_
        refine x_iload_n hM d_Mo_aims_42 rfl 2 rfl ?_
        refine x_iload_n hM d_Mo_aims_43 rfl 3 rfl ?_
        obtain ⟨c4, F⟩ := F
        obtain ⟨c5, F⟩ := F
        replace F := F _ rfl
        refine x_iastore hG hM d_Mo_aims_44 c4 c5 ?_
        refine x_iinc (v := (v2 + 1)) (lv2 := [(2, .int (v2 + 1)), (0, .ref v0), (1, .ref v1), (3, .int v3)]) hM d_Mo_aims_45 (j := 2) rfl rfl (Nat.le_of_ble_eq_true rfl) rfl ?_
        refine x_iinc (v := (v3 + 1)) (lv2 := [(3, .int (v3 + 1)), (2, .int (v2 + 1)), (0, .ref v0), (1, .ref v1)]) hM d_Mo_aims_48 (j := 3) rfl rfl (Nat.le_of_ble_eq_true rfl) rfl ?_
        refine x_goto (tgt := 4) hM d_Mo_aims_51 (by decide) ?_
        refine x_sub [2, 3, 1, 0] rfl ?_
        exact F
    refine x_if_eq (tgt := 27) hM d_Mo_aims_20 (by decide) (fun q15 => ?_) (fun q15 => ?_)
    · refine x_iconst (v := (-1)) hM d_Mo_aims_27 (by decide) ?_
      exact JJ _ (Eq.symm (if_pos q15))
    · refine x_iconst (v := 0) hM d_Mo_aims_23 (by decide) ?_
      refine x_goto (tgt := 28) hM d_Mo_aims_24 (by decide) ?_
      exact JJ _ (Eq.symm (if_neg q15))
set_option maxRecDepth 100000 in
set_option maxHeartbeats 4000000 in
theorem S_Mo_surely_0 {G : Gc} {M : Mc} {Q : State → Prop} {K : Option Value → Hp → Prop} (hG : gok G) (hM : mok G M r_Mo_surely Q K) (v0 : Nat) (h : Hp) (F : X G M Q 2 [(0, .ref v0), (1, .int 0)] [] h) : X G M Q 0 [(0, .ref v0)] [] h := by
  refine x_iconst (v := 0) hM d_Mo_surely_0 (by decide) ?_
  refine x_istore_n (lv2 := [(1, .int 0), (0, .ref v0)]) hM d_Mo_surely_1 rfl (Nat.le_of_ble_eq_true rfl) rfl ?_
  refine x_sub [1, 0] rfl ?_
  exact F
set_option maxRecDepth 100000 in
set_option maxHeartbeats 4000000 in
theorem S_Mo_surely_2 {G : Gc} {M : Mc} {Q : State → Prop} {K : Option Value → Hp → Prop} (hG : gok G) (hM : mok G M r_Mo_surely Q K) (v0 : Nat) (v1 : Int32) (h : Hp) (F : kT h v0 = 12 ∧ (((kI h v0 13) ≤ v1 → (kT h v0 = 12 ∧ kR h v0 21 = some (rf h v0 21) ∧ (kT h v0 = 12 ∧ sem G r_Mo_aims [.ref v0, .ref (rf h v0 21)] h (fun u2 h1 => ∃ x3 : Int32, u2 = some (.int x3) ∧ X G M Q 60 [(0, .ref v0), (1, .int x3), (2, .int 0)] [] h1)))) ∧ (¬ (kI h v0 13) ≤ v1 → X G M Q 12 [(0, .ref v0), (1, .int v1), (2, .int 0)] [] h))) : X G M Q 2 [(0, .ref v0), (1, .int v1)] [] h := by
  refine x_iload_n hM d_Mo_surely_2 rfl 1 rfl ?_
  refine x_aload_n hM d_Mo_surely_3 rfl 0 rfl ?_
  obtain ⟨c8, F⟩ := F
  refine x_geti hG hM ck_Mo 13 (Nat.le_of_ble_eq_true rfl) rfl rfl w_910 rfl d_Mo_surely_4 c8 ?_
  refine x_icmp_ge (tgt := 49) hM d_Mo_surely_7 (by decide) (fun q7 => ?_) (fun q7 => ?_)
  · replace F := F.1 q7
    refine x_aload_n hM d_Mo_surely_49 rfl 0 rfl ?_
    refine x_aload_n hM d_Mo_surely_50 rfl 0 rfl ?_
    obtain ⟨c5, F⟩ := F
    obtain ⟨c6, F⟩ := F
    refine x_getr hG hM ck_Mo 21 (Nat.le_of_ble_eq_true rfl) rfl rfl w_918 rfl d_Mo_surely_51 c5 c6 ?_
    obtain ⟨c4, F⟩ := F
    refine x_callV hG hM (r' := r_Mo_aims) (ci := 11) [.ref (rf h v0 21)] rfl rfl (Nat.le_of_ble_eq_true rfl) yk_Mo_aims ⟨Nat.le_of_ble_eq_true rfl, Nat.le_of_ble_eq_true rfl⟩ w_1124 w_1126 ws_Mo_aims rfl rfl (Nat.le_of_ble_eq_true rfl) d_Mo_surely_54 c4 (sem_mono F ?_)
    intro u2 h1 F
    obtain ⟨x3, rfl, F⟩ := F
    refine x_istore_n (lv2 := [(1, .int x3), (0, .ref v0)]) hM d_Mo_surely_57 rfl (Nat.le_of_ble_eq_true rfl) rfl ?_
    refine x_iconst (v := 0) hM d_Mo_surely_58 (by decide) ?_
    refine x_istore_n (lv2 := [(2, .int 0), (1, .int x3), (0, .ref v0)]) hM d_Mo_surely_59 rfl (Nat.le_of_ble_eq_true rfl) rfl ?_
    refine x_sub [2, 1, 0] rfl ?_
    exact F
  · replace F := F.2 q7
    refine x_iconst (v := 0) hM d_Mo_surely_10 (by decide) ?_
    refine x_istore_n (lv2 := [(2, .int 0), (0, .ref v0), (1, .int v1)]) hM d_Mo_surely_11 rfl (Nat.le_of_ble_eq_true rfl) rfl ?_
    refine x_sub [1, 2, 0] rfl ?_
    exact F
set_option maxRecDepth 100000 in
set_option maxHeartbeats 4000000 in
theorem S_Mo_surely_12 {G : Gc} {M : Mc} {Q : State → Prop} {K : Option Value → Hp → Prop} (hG : gok G) (hM : mok G M r_Mo_surely Q K) (v0 : Nat) (v1 : Int32) (v2 : Int32) (h : Hp) (F : kT h v0 = 12 ∧ (((kI h v0 3) ≤ v2 → X G M Q 2 [(0, .ref v0), (1, .int (v1 + 1))] [] h) ∧ (¬ (kI h v0 3) ≤ v2 → (kT h v0 = 12 ∧ kR h v0 24 = some (rf h v0 24) ∧ (kT h v0 = 12 ∧ kR h v0 4 = some (rf h v0 4) ∧ (kT h (rf h v0 4) = 50 ∧ vp_in v2 (kN h (rf h v0 4)) ∧ (kT h (rf h v0 24) = 50 ∧ vp_in ((12 * v1) + v2) (kN h (rf h v0 24)) ∧ (∀ h1 : Hp, h1 = wI h (rf h v0 24) (Int32.toNatClampNeg ((12 * v1) + v2)) (kI h (rf h v0 4) (Int32.toNatClampNeg v2)) → X G M Q 12 [(0, .ref v0), (1, .int v1), (2, .int (v2 + 1))] [] h1)))))))) : X G M Q 12 [(0, .ref v0), (1, .int v1), (2, .int v2)] [] h := by
  refine x_iload_n hM d_Mo_surely_12 rfl 2 rfl ?_
  refine x_aload_n hM d_Mo_surely_13 rfl 0 rfl ?_
  obtain ⟨c11, F⟩ := F
  refine x_geti hG hM ck_Mo 3 (Nat.le_of_ble_eq_true rfl) rfl rfl w_900 rfl d_Mo_surely_14 c11 ?_
  refine x_icmp_ge (tgt := 43) hM d_Mo_surely_17 (by decide) (fun q10 => ?_) (fun q10 => ?_)
  · replace F := F.1 q10
    refine x_iinc (v := (v1 + 1)) (lv2 := [(1, .int (v1 + 1)), (0, .ref v0), (2, .int v2)]) hM d_Mo_surely_43 (j := 1) rfl rfl (Nat.le_of_ble_eq_true rfl) rfl ?_
    refine x_goto (tgt := 2) hM d_Mo_surely_46 (by decide) ?_
    refine x_sub [1, 0] rfl ?_
    exact F
  · replace F := F.2 q10
    refine x_aload_n hM d_Mo_surely_20 rfl 0 rfl ?_
    obtain ⟨c8, F⟩ := F
    obtain ⟨c9, F⟩ := F
    refine x_getr hG hM ck_Mo 24 (Nat.le_of_ble_eq_true rfl) rfl rfl w_921 rfl d_Mo_surely_21 c8 c9 ?_
    refine x_bipush (v := 12) hM d_Mo_surely_24 (by decide) ?_
    refine x_iload_n hM d_Mo_surely_26 rfl 1 rfl ?_
    refine x_imul hM d_Mo_surely_27 ?_
    refine x_iload_n hM d_Mo_surely_28 rfl 2 rfl ?_
    refine x_iadd hM d_Mo_surely_29 ?_
    refine x_aload_n hM d_Mo_surely_30 rfl 0 rfl ?_
    obtain ⟨c6, F⟩ := F
    obtain ⟨c7, F⟩ := F
    refine x_getr hG hM ck_Mo 4 (Nat.le_of_ble_eq_true rfl) rfl rfl w_901 rfl d_Mo_surely_31 c6 c7 ?_
    refine x_iload_n hM d_Mo_surely_34 rfl 2 rfl ?_
    obtain ⟨c4, F⟩ := F
    obtain ⟨c5, F⟩ := F
    refine x_iaload hG hM d_Mo_surely_35 c4 c5 ?_
    obtain ⟨c2, F⟩ := F
    obtain ⟨c3, F⟩ := F
    replace F := F _ rfl
    refine x_iastore hG hM d_Mo_surely_36 c2 c3 ?_
    refine x_iinc (v := (v2 + 1)) (lv2 := [(2, .int (v2 + 1)), (0, .ref v0), (1, .int v1)]) hM d_Mo_surely_37 (j := 2) rfl rfl (Nat.le_of_ble_eq_true rfl) rfl ?_
    refine x_goto (tgt := 12) hM d_Mo_surely_40 (by decide) ?_
    refine x_sub [1, 2, 0] rfl ?_
    exact F
set_option maxRecDepth 100000 in
set_option maxHeartbeats 4000000 in
theorem S_Mo_surely_60 {G : Gc} {M : Mc} {Q : State → Prop} {K : Option Value → Hp → Prop} (hG : gok G) (hM : mok G M r_Mo_surely Q K) (v0 : Nat) (v1 : Int32) (v2 : Int32) (h : Hp) (F : (v1 ≤ v2 → K none h) ∧ (¬ v1 ≤ v2 → (kT h v0 = 12 ∧ kR h v0 16 = some (rf h v0 16) ∧ (kT h v0 = 12 ∧ kR h v0 23 = some (rf h v0 23) ∧ (kT h (rf h v0 23) = 50 ∧ vp_in v2 (kN h (rf h v0 23)) ∧ (kT h (rf h v0 16) = 50 ∧ vp_in (kI h (rf h v0 23) (Int32.toNatClampNeg v2)) (kN h (rf h v0 16)) ∧ X G M Q 77 [(0, .ref v0), (1, .int v1), (2, .int v2), (3, .int (kI h (rf h v0 16) (Int32.toNatClampNeg (kI h (rf h v0 23) (Int32.toNatClampNeg v2)))))] [] h)))))) : X G M Q 60 [(0, .ref v0), (1, .int v1), (2, .int v2)] [] h := by
  refine x_iload_n hM d_Mo_surely_60 rfl 2 rfl ?_
  refine x_iload_n hM d_Mo_surely_61 rfl 1 rfl ?_
  refine x_icmp_ge (tgt := 197) hM d_Mo_surely_62 (by decide) (fun q9 => ?_) (fun q9 => ?_)
  · replace F := F.1 q9
    exact x_return hM d_Mo_surely_197 rfl F
  · replace F := F.2 q9
    refine x_aload_n hM d_Mo_surely_65 rfl 0 rfl ?_
    obtain ⟨c7, F⟩ := F
    obtain ⟨c8, F⟩ := F
    refine x_getr hG hM ck_Mo 16 (Nat.le_of_ble_eq_true rfl) rfl rfl w_913 rfl d_Mo_surely_66 c7 c8 ?_
    refine x_aload_n hM d_Mo_surely_69 rfl 0 rfl ?_
    obtain ⟨c5, F⟩ := F
    obtain ⟨c6, F⟩ := F
    refine x_getr hG hM ck_Mo 23 (Nat.le_of_ble_eq_true rfl) rfl rfl w_920 rfl d_Mo_surely_70 c5 c6 ?_
    refine x_iload_n hM d_Mo_surely_73 rfl 2 rfl ?_
    obtain ⟨c3, F⟩ := F
    obtain ⟨c4, F⟩ := F
    refine x_iaload hG hM d_Mo_surely_74 c3 c4 ?_
    obtain ⟨c1, F⟩ := F
    obtain ⟨c2, F⟩ := F
    refine x_iaload hG hM d_Mo_surely_75 c1 c2 ?_
    refine x_istore_n (lv2 := [(3, .int (kI h (rf h v0 16) (Int32.toNatClampNeg (kI h (rf h v0 23) (Int32.toNatClampNeg v2))))), (0, .ref v0), (1, .int v1), (2, .int v2)]) hM d_Mo_surely_76 rfl (Nat.le_of_ble_eq_true rfl) rfl ?_
    refine x_sub [1, 2, 3, 0] rfl ?_
    exact F
set_option maxRecDepth 100000 in
set_option maxHeartbeats 4000000 in
theorem S_Mo_surely_77 {G : Gc} {M : Mc} {Q : State → Prop} {K : Option Value → Hp → Prop} (hG : gok G) (hM : mok G M r_Mo_surely Q K) (v0 : Nat) (v1 : Int32) (v2 : Int32) (v3 : Int32) (h : Hp) (F : (v3 = (-1) → X G M Q 60 [(0, .ref v0), (1, .int v1), (2, .int (v2 + 1))] [] h) ∧ (¬ v3 = (-1) → (kT h v0 = 12 ∧ kR h v0 17 = some (rf h v0 17) ∧ (kT h (rf h v0 17) = 50 ∧ vp_in v3 (kN h (rf h v0 17)) ∧ (kT h v0 = 12 ∧ kR h v0 17 = some (rf h v0 17) ∧ (kT h (rf h v0 17) = 50 ∧ vp_in v3 (kN h (rf h v0 17)) ∧ (kT h v0 = 12 ∧ kR h v0 24 = some (rf h v0 24) ∧ (kT h (rf h v0 24) = 50 ∧ vp_in ((12 * ((kI h (rf h v0 17) (Int32.toNatClampNeg v3)) / 36)) + (((kI h (rf h v0 17) (Int32.toNatClampNeg v3)) - (kI h (rf h v0 17) (Int32.toNatClampNeg v3)) / 36 * 36) / 3)) (kN h (rf h v0 24)) ∧ (kT h (rf h v0 24) = 50 ∧ vp_in ((12 * ((kI h (rf h v0 17) (Int32.toNatClampNeg v3)) / 36)) + (((kI h (rf h v0 17) (Int32.toNatClampNeg v3)) - (kI h (rf h v0 17) (Int32.toNatClampNeg v3)) / 36 * 36) / 3)) (kN h (rf h v0 24)) ∧ (∀ h1 : Hp, h1 = wI h (rf h v0 24) (Int32.toNatClampNeg ((12 * ((kI h (rf h v0 17) (Int32.toNatClampNeg v3)) / 36)) + (((kI h (rf h v0 17) (Int32.toNatClampNeg v3)) - (kI h (rf h v0 17) (Int32.toNatClampNeg v3)) / 36 * 36) / 3))) ((kI h (rf h v0 24) (Int32.toNatClampNeg ((12 * ((kI h (rf h v0 17) (Int32.toNatClampNeg v3)) / 36)) + (((kI h (rf h v0 17) (Int32.toNatClampNeg v3)) - (kI h (rf h v0 17) (Int32.toNatClampNeg v3)) / 36 * 36) / 3)))) - 1) → (kT h1 v0 = 12 ∧ kR h1 v0 24 = some (rf h1 v0 24) ∧ (kT h1 (rf h1 v0 24) = 50 ∧ vp_in ((12 * ((kI h (rf h v0 17) (Int32.toNatClampNeg v3)) / 36)) + (((kI h (rf h v0 17) (Int32.toNatClampNeg v3)) - (kI h (rf h v0 17) (Int32.toNatClampNeg v3)) / 36 * 36) / 3)) (kN h1 (rf h1 v0 24)) ∧ (((kI h1 (rf h1 v0 24) (Int32.toNatClampNeg ((12 * ((kI h (rf h v0 17) (Int32.toNatClampNeg v3)) / 36)) + (((kI h (rf h v0 17) (Int32.toNatClampNeg v3)) - (kI h (rf h v0 17) (Int32.toNatClampNeg v3)) / 36 * 36) / 3)))) = 0 → (kT h1 v0 = 12 ∧ kR h1 v0 21 = some (rf h1 v0 21) ∧ (kT h1 (rf h1 v0 21) = 50 ∧ vp_in ((kI h (rf h v0 17) (Int32.toNatClampNeg v3)) / 36) (kN h1 (rf h1 v0 21)) ∧ (((kI h1 (rf h1 v0 21) (Int32.toNatClampNeg ((kI h (rf h v0 17) (Int32.toNatClampNeg v3)) / 36))) = (-1) → (kT h1 v0 = 12 ∧ kR h1 v0 21 = some (rf h1 v0 21) ∧ (kT h1 v0 = 12 ∧ kR h1 v0 21 = some (rf h1 v0 21) ∧ (kT h1 v0 = 12 ∧ kR h1 v0 23 = some (rf h1 v0 23) ∧ (kT h1 (rf h1 v0 23) = 50 ∧ vp_in v2 (kN h1 (rf h1 v0 23)) ∧ (kT h1 (rf h1 v0 21) = 50 ∧ vp_in (kI h1 (rf h1 v0 23) (Int32.toNatClampNeg v2)) (kN h1 (rf h1 v0 21)) ∧ (kT h1 (rf h1 v0 21) = 50 ∧ vp_in ((kI h (rf h v0 17) (Int32.toNatClampNeg v3)) / 36) (kN h1 (rf h1 v0 21)) ∧ (∀ h10 : Hp, h10 = wI h1 (rf h1 v0 21) (Int32.toNatClampNeg ((kI h (rf h v0 17) (Int32.toNatClampNeg v3)) / 36)) ((kI h1 (rf h1 v0 21) (Int32.toNatClampNeg (kI h1 (rf h1 v0 23) (Int32.toNatClampNeg v2)))) + 1) → (kT h10 v0 = 12 ∧ kR h10 v0 23 = some (rf h10 v0 23) ∧ (kT h10 (rf h10 v0 23) = 50 ∧ vp_in v1 (kN h10 (rf h10 v0 23)) ∧ (∀ h11 : Hp, h11 = wI h10 (rf h10 v0 23) (Int32.toNatClampNeg v1) ((kI h (rf h v0 17) (Int32.toNatClampNeg v3)) / 36) → (kT h11 v0 = 12 ∧ kR h11 v0 18 = some (rf h11 v0 18) ∧ (kT h11 (rf h11 v0 18) = 50 ∧ vp_in v3 (kN h11 (rf h11 v0 18)) ∧ X G M Q 77 [(0, .ref v0), (1, .int (v1 + 1)), (2, .int v2), (3, .int (kI h11 (rf h11 v0 18) (Int32.toNatClampNeg v3)))] [] h11))))))))))))) ∧ (¬ (kI h1 (rf h1 v0 21) (Int32.toNatClampNeg ((kI h (rf h v0 17) (Int32.toNatClampNeg v3)) / 36))) = (-1) → (kT h1 v0 = 12 ∧ kR h1 v0 18 = some (rf h1 v0 18) ∧ (kT h1 (rf h1 v0 18) = 50 ∧ vp_in v3 (kN h1 (rf h1 v0 18)) ∧ X G M Q 77 [(0, .ref v0), (1, .int v1), (2, .int v2), (3, .int (kI h1 (rf h1 v0 18) (Int32.toNatClampNeg v3)))] [] h1))))))) ∧ (¬ (kI h1 (rf h1 v0 24) (Int32.toNatClampNeg ((12 * ((kI h (rf h v0 17) (Int32.toNatClampNeg v3)) / 36)) + (((kI h (rf h v0 17) (Int32.toNatClampNeg v3)) - (kI h (rf h v0 17) (Int32.toNatClampNeg v3)) / 36 * 36) / 3)))) = 0 → (kT h1 v0 = 12 ∧ kR h1 v0 18 = some (rf h1 v0 18) ∧ (kT h1 (rf h1 v0 18) = 50 ∧ vp_in v3 (kN h1 (rf h1 v0 18)) ∧ X G M Q 77 [(0, .ref v0), (1, .int v1), (2, .int v2), (3, .int (kI h1 (rf h1 v0 18) (Int32.toNatClampNeg v3)))] [] h1)))))))))))))))) : X G M Q 77 [(0, .ref v0), (1, .int v1), (2, .int v2), (3, .int v3)] [] h := by
  refine x_iload_n hM d_Mo_surely_77 rfl 3 rfl ?_
  refine x_iconst (v := (-1)) hM d_Mo_surely_78 (by decide) ?_
  refine x_icmp_eq (tgt := 191) hM d_Mo_surely_79 (by decide) (fun q56 => ?_) (fun q56 => ?_)
  · replace F := F.1 q56
    refine x_iinc (v := (v2 + 1)) (lv2 := [(2, .int (v2 + 1)), (0, .ref v0), (1, .int v1), (3, .int v3)]) hM d_Mo_surely_191 (j := 2) rfl rfl (Nat.le_of_ble_eq_true rfl) rfl ?_
    refine x_goto (tgt := 60) hM d_Mo_surely_194 (by decide) ?_
    refine x_sub [1, 2, 0] rfl ?_
    exact F
  · replace F := F.2 q56
    refine x_aload_n hM d_Mo_surely_82 rfl 0 rfl ?_
    obtain ⟨c54, F⟩ := F
    obtain ⟨c55, F⟩ := F
    refine x_getr hG hM ck_Mo 17 (Nat.le_of_ble_eq_true rfl) rfl rfl w_914 rfl d_Mo_surely_83 c54 c55 ?_
    refine x_iload_n hM d_Mo_surely_86 rfl 3 rfl ?_
    obtain ⟨c52, F⟩ := F
    obtain ⟨c53, F⟩ := F
    refine x_iaload hG hM d_Mo_surely_87 c52 c53 ?_
    refine x_bipush (v := 36) hM d_Mo_surely_88 (by decide) ?_
    refine x_idiv hM d_Mo_surely_90 (by decide) ?_
    refine x_istore (lv2 := [(4, .int ((kI h (rf h v0 17) (Int32.toNatClampNeg v3)) / 36)), (0, .ref v0), (1, .int v1), (2, .int v2), (3, .int v3)]) hM d_Mo_surely_91 (Nat.le_of_ble_eq_true rfl) rfl ?_
    refine x_aload_n hM d_Mo_surely_93 rfl 1 rfl ?_
    obtain ⟨c50, F⟩ := F
    obtain ⟨c51, F⟩ := F
    refine x_getr hG hM ck_Mo 17 (Nat.le_of_ble_eq_true rfl) rfl rfl w_914 rfl d_Mo_surely_94 c50 c51 ?_
    refine x_iload_n hM d_Mo_surely_97 rfl 4 rfl ?_
    obtain ⟨c48, F⟩ := F
    obtain ⟨c49, F⟩ := F
    refine x_iaload hG hM d_Mo_surely_98 c48 c49 ?_
    refine x_bipush (v := 36) hM d_Mo_surely_99 (by decide) ?_
    refine x_irem hM d_Mo_surely_101 (by decide) ?_
    refine x_iconst (v := 3) hM d_Mo_surely_102 (by decide) ?_
    refine x_idiv hM d_Mo_surely_103 (by decide) ?_
    refine x_istore (lv2 := [(5, .int (((kI h (rf h v0 17) (Int32.toNatClampNeg v3)) - (kI h (rf h v0 17) (Int32.toNatClampNeg v3)) / 36 * 36) / 3)), (4, .int ((kI h (rf h v0 17) (Int32.toNatClampNeg v3)) / 36)), (0, .ref v0), (1, .int v1), (2, .int v2), (3, .int v3)]) hM d_Mo_surely_104 (Nat.le_of_ble_eq_true rfl) rfl ?_
    refine x_aload_n hM d_Mo_surely_106 rfl 2 rfl ?_
    obtain ⟨c46, F⟩ := F
    obtain ⟨c47, F⟩ := F
    refine x_getr hG hM ck_Mo 24 (Nat.le_of_ble_eq_true rfl) rfl rfl w_921 rfl d_Mo_surely_107 c46 c47 ?_
    refine x_bipush (v := 12) hM d_Mo_surely_110 (by decide) ?_
    refine x_iload hM d_Mo_surely_112 1 rfl ?_
    refine x_imul hM d_Mo_surely_114 ?_
    refine x_iload hM d_Mo_surely_115 0 rfl ?_
    refine x_iadd hM d_Mo_surely_117 ?_
    refine x_dup2 hM d_Mo_surely_118 rfl rfl ?_
    obtain ⟨c44, F⟩ := F
    obtain ⟨c45, F⟩ := F
    refine x_iaload hG hM d_Mo_surely_119 c44 c45 ?_
    refine x_iconst (v := 1) hM d_Mo_surely_120 (by decide) ?_
    refine x_isub hM d_Mo_surely_121 ?_
    obtain ⟨c42, F⟩ := F
    obtain ⟨c43, F⟩ := F
    replace F := F _ rfl
    refine x_iastore hG hM d_Mo_surely_122 c42 c43 ?_
    refine x_aload_n hM d_Mo_surely_123 rfl 2 rfl ?_
    obtain ⟨c40, F⟩ := F
    obtain ⟨c41, F⟩ := F
    refine x_getr hG hM ck_Mo 24 (Nat.le_of_ble_eq_true rfl) rfl rfl w_921 rfl d_Mo_surely_124 c40 c41 ?_
    refine x_bipush (v := 12) hM d_Mo_surely_127 (by decide) ?_
    refine x_iload hM d_Mo_surely_129 1 rfl ?_
    refine x_imul hM d_Mo_surely_131 ?_
    refine x_iload hM d_Mo_surely_132 0 rfl ?_
    refine x_iadd hM d_Mo_surely_134 ?_
    obtain ⟨c38, F⟩ := F
    obtain ⟨c39, F⟩ := F
    refine x_iaload hG hM d_Mo_surely_135 c38 c39 ?_
    refine x_if_ne (tgt := 181) hM d_Mo_surely_136 (by decide) (fun q37 => ?_) (fun q37 => ?_)
    · replace F := F.2 q37
      refine x_aload_n hM d_Mo_surely_181 rfl 2 rfl ?_
      obtain ⟨c4, F⟩ := F
      obtain ⟨c5, F⟩ := F
      refine x_getr hG hM ck_Mo 18 (Nat.le_of_ble_eq_true rfl) rfl rfl w_915 rfl d_Mo_surely_182 c4 c5 ?_
      refine x_iload_n hM d_Mo_surely_185 rfl 5 rfl ?_
      obtain ⟨c2, F⟩ := F
      obtain ⟨c3, F⟩ := F
      refine x_iaload hG hM d_Mo_surely_186 c2 c3 ?_
      refine x_istore_n (lv2 := [(3, .int (kI h1 (rf h1 v0 18) (Int32.toNatClampNeg v3))), (5, .int (((kI h (rf h v0 17) (Int32.toNatClampNeg v3)) - (kI h (rf h v0 17) (Int32.toNatClampNeg v3)) / 36 * 36) / 3)), (4, .int ((kI h (rf h v0 17) (Int32.toNatClampNeg v3)) / 36)), (0, .ref v0), (1, .int v1), (2, .int v2)]) hM d_Mo_surely_187 rfl (Nat.le_of_ble_eq_true rfl) rfl ?_
      refine x_goto (tgt := 77) hM d_Mo_surely_188 (by decide) ?_
      refine x_sub [3, 4, 5, 0] rfl ?_
      exact F
    · replace F := F.1 q37
      refine x_aload_n hM d_Mo_surely_139 rfl 2 rfl ?_
      obtain ⟨c35, F⟩ := F
      obtain ⟨c36, F⟩ := F
      refine x_getr hG hM ck_Mo 21 (Nat.le_of_ble_eq_true rfl) rfl rfl w_918 rfl d_Mo_surely_140 c35 c36 ?_
      refine x_iload hM d_Mo_surely_143 1 rfl ?_
      obtain ⟨c33, F⟩ := F
      obtain ⟨c34, F⟩ := F
      refine x_iaload hG hM d_Mo_surely_145 c33 c34 ?_
      refine x_iconst (v := (-1)) hM d_Mo_surely_146 (by decide) ?_
      refine x_icmp_ne (tgt := 181) hM d_Mo_surely_147 (by decide) (fun q32 => ?_) (fun q32 => ?_)
      · replace F := F.2 q32
        refine x_aload_n hM d_Mo_surely_181 rfl 2 rfl ?_
        obtain ⟨c8, F⟩ := F
        obtain ⟨c9, F⟩ := F
        refine x_getr hG hM ck_Mo 18 (Nat.le_of_ble_eq_true rfl) rfl rfl w_915 rfl d_Mo_surely_182 c8 c9 ?_
        refine x_iload_n hM d_Mo_surely_185 rfl 5 rfl ?_
        obtain ⟨c6, F⟩ := F
        obtain ⟨c7, F⟩ := F
        refine x_iaload hG hM d_Mo_surely_186 c6 c7 ?_
        refine x_istore_n (lv2 := [(3, .int (kI h1 (rf h1 v0 18) (Int32.toNatClampNeg v3))), (5, .int (((kI h (rf h v0 17) (Int32.toNatClampNeg v3)) - (kI h (rf h v0 17) (Int32.toNatClampNeg v3)) / 36 * 36) / 3)), (4, .int ((kI h (rf h v0 17) (Int32.toNatClampNeg v3)) / 36)), (0, .ref v0), (1, .int v1), (2, .int v2)]) hM d_Mo_surely_187 rfl (Nat.le_of_ble_eq_true rfl) rfl ?_
        refine x_goto (tgt := 77) hM d_Mo_surely_188 (by decide) ?_
        refine x_sub [3, 4, 5, 0] rfl ?_
        exact F
      · replace F := F.1 q32
        refine x_aload_n hM d_Mo_surely_150 rfl 2 rfl ?_
        obtain ⟨c30, F⟩ := F
        obtain ⟨c31, F⟩ := F
        refine x_getr hG hM ck_Mo 21 (Nat.le_of_ble_eq_true rfl) rfl rfl w_918 rfl d_Mo_surely_151 c30 c31 ?_
        refine x_iload hM d_Mo_surely_154 1 rfl ?_
        refine x_aload_n hM d_Mo_surely_156 rfl 2 rfl ?_
        obtain ⟨c28, F⟩ := F
        obtain ⟨c29, F⟩ := F
        refine x_getr hG hM ck_Mo 21 (Nat.le_of_ble_eq_true rfl) rfl rfl w_918 rfl d_Mo_surely_157 c28 c29 ?_
        refine x_aload_n hM d_Mo_surely_160 rfl 2 rfl ?_
        obtain ⟨c26, F⟩ := F
        obtain ⟨c27, F⟩ := F
        refine x_getr hG hM ck_Mo 23 (Nat.le_of_ble_eq_true rfl) rfl rfl w_920 rfl d_Mo_surely_161 c26 c27 ?_
        refine x_iload_n hM d_Mo_surely_164 rfl 4 rfl ?_
        obtain ⟨c24, F⟩ := F
        obtain ⟨c25, F⟩ := F
        refine x_iaload hG hM d_Mo_surely_165 c24 c25 ?_
        obtain ⟨c22, F⟩ := F
        obtain ⟨c23, F⟩ := F
        refine x_iaload hG hM d_Mo_surely_166 c22 c23 ?_
        refine x_iconst (v := 1) hM d_Mo_surely_167 (by decide) ?_
        refine x_iadd hM d_Mo_surely_168 ?_
        obtain ⟨c20, F⟩ := F
        obtain ⟨c21, F⟩ := F
        replace F := F _ rfl
        refine x_iastore hG hM d_Mo_surely_169 c20 c21 ?_
        refine x_aload_n hM d_Mo_surely_170 rfl 2 rfl ?_
        obtain ⟨c18, F⟩ := F
        obtain ⟨c19, F⟩ := F
        refine x_getr hG hM ck_Mo 23 (Nat.le_of_ble_eq_true rfl) rfl rfl w_920 rfl d_Mo_surely_171 c18 c19 ?_
        refine x_iload_n hM d_Mo_surely_174 rfl 3 rfl ?_
        refine x_iload hM d_Mo_surely_175 1 rfl ?_
        obtain ⟨c16, F⟩ := F
        obtain ⟨c17, F⟩ := F
        replace F := F _ rfl
        refine x_iastore hG hM d_Mo_surely_177 c16 c17 ?_
        refine x_iinc (v := (v1 + 1)) (lv2 := [(1, .int (v1 + 1)), (5, .int (((kI h (rf h v0 17) (Int32.toNatClampNeg v3)) - (kI h (rf h v0 17) (Int32.toNatClampNeg v3)) / 36 * 36) / 3)), (4, .int ((kI h (rf h v0 17) (Int32.toNatClampNeg v3)) / 36)), (0, .ref v0), (2, .int v2), (3, .int v3)]) hM d_Mo_surely_178 (j := 3) rfl rfl (Nat.le_of_ble_eq_true rfl) rfl ?_
        refine x_aload_n hM d_Mo_surely_181 rfl 3 rfl ?_
        obtain ⟨c14, F⟩ := F
        obtain ⟨c15, F⟩ := F
        refine x_getr hG hM ck_Mo 18 (Nat.le_of_ble_eq_true rfl) rfl rfl w_915 rfl d_Mo_surely_182 c14 c15 ?_
        refine x_iload_n hM d_Mo_surely_185 rfl 5 rfl ?_
        obtain ⟨c12, F⟩ := F
        obtain ⟨c13, F⟩ := F
        refine x_iaload hG hM d_Mo_surely_186 c12 c13 ?_
        refine x_istore_n (lv2 := [(3, .int (kI h11 (rf h11 v0 18) (Int32.toNatClampNeg v3))), (1, .int (v1 + 1)), (5, .int (((kI h (rf h v0 17) (Int32.toNatClampNeg v3)) - (kI h (rf h v0 17) (Int32.toNatClampNeg v3)) / 36 * 36) / 3)), (4, .int ((kI h (rf h v0 17) (Int32.toNatClampNeg v3)) / 36)), (0, .ref v0), (2, .int v2)]) hM d_Mo_surely_187 rfl (Nat.le_of_ble_eq_true rfl) rfl ?_
        refine x_goto (tgt := 77) hM d_Mo_surely_188 (by decide) ?_
        refine x_sub [4, 1, 5, 0] rfl ?_
        exact F
set_option maxRecDepth 100000 in
set_option maxHeartbeats 4000000 in
theorem S_Mo_fairly_0 {G : Gc} {M : Mc} {Q : State → Prop} {K : Option Value → Hp → Prop} (hG : gok G) (hM : mok G M r_Mo_fairly Q K) (v0 : Nat) (h : Hp) (F : X G M Q 2 [(0, .ref v0), (1, .int 0)] [] h) : X G M Q 0 [(0, .ref v0)] [] h := by
  refine x_iconst (v := 0) hM d_Mo_fairly_0 (by decide) ?_
  refine x_istore_n (lv2 := [(1, .int 0), (0, .ref v0)]) hM d_Mo_fairly_1 rfl (Nat.le_of_ble_eq_true rfl) rfl ?_
  refine x_sub [1, 0] rfl ?_
  exact F
set_option maxRecDepth 100000 in
set_option maxHeartbeats 4000000 in
theorem S_Mo_fairly_2 {G : Gc} {M : Mc} {Q : State → Prop} {K : Option Value → Hp → Prop} (hG : gok G) (hM : mok G M r_Mo_fairly Q K) (v0 : Nat) (v1 : Int32) (h : Hp) (F : kT h v0 = 12 ∧ (((kI h v0 13) ≤ v1 → X G M Q 25 [(0, .ref v0), (1, .int 1)] [] h) ∧ (¬ (kI h v0 13) ≤ v1 → (kT h v0 = 12 ∧ kR h v0 25 = some (rf h v0 25) ∧ (kT h (rf h v0 25) = 51 ∧ vp_in v1 (kN h (rf h v0 25)) ∧ (∀ h1 : Hp, h1 = wI h (rf h v0 25) (Int32.toNatClampNeg v1) 1 → X G M Q 2 [(0, .ref v0), (1, .int (v1 + 1))] [] h1)))))) : X G M Q 2 [(0, .ref v0), (1, .int v1)] [] h := by
  refine x_iload_n hM d_Mo_fairly_2 rfl 1 rfl ?_
  refine x_aload_n hM d_Mo_fairly_3 rfl 0 rfl ?_
  obtain ⟨c7, F⟩ := F
  refine x_geti hG hM ck_Mo 13 (Nat.le_of_ble_eq_true rfl) rfl rfl w_910 rfl d_Mo_fairly_4 c7 ?_
  refine x_icmp_ge (tgt := 23) hM d_Mo_fairly_7 (by decide) (fun q6 => ?_) (fun q6 => ?_)
  · replace F := F.1 q6
    refine x_iconst (v := 1) hM d_Mo_fairly_23 (by decide) ?_
    refine x_istore_n (lv2 := [(1, .int 1), (0, .ref v0)]) hM d_Mo_fairly_24 rfl (Nat.le_of_ble_eq_true rfl) rfl ?_
    refine x_sub [1, 0] rfl ?_
    exact F
  · replace F := F.2 q6
    refine x_aload_n hM d_Mo_fairly_10 rfl 0 rfl ?_
    obtain ⟨c4, F⟩ := F
    obtain ⟨c5, F⟩ := F
    refine x_getr hG hM ck_Mo 25 (Nat.le_of_ble_eq_true rfl) rfl rfl w_922 rfl d_Mo_fairly_11 c4 c5 ?_
    refine x_iload_n hM d_Mo_fairly_14 rfl 1 rfl ?_
    refine x_iconst (v := 1) hM d_Mo_fairly_15 (by decide) ?_
    obtain ⟨c2, F⟩ := F
    obtain ⟨c3, F⟩ := F
    replace F := F _ rfl
    refine x_zastore hG hM d_Mo_fairly_16 c2 c3 (Or.inr rfl) ?_
    refine x_iinc (v := (v1 + 1)) (lv2 := [(1, .int (v1 + 1)), (0, .ref v0)]) hM d_Mo_fairly_17 (j := 1) rfl rfl (Nat.le_of_ble_eq_true rfl) rfl ?_
    refine x_goto (tgt := 2) hM d_Mo_fairly_20 (by decide) ?_
    refine x_sub [1, 0] rfl ?_
    exact F
set_option maxRecDepth 100000 in
set_option maxHeartbeats 4000000 in
theorem S_Mo_fairly_25 {G : Gc} {M : Mc} {Q : State → Prop} {K : Option Value → Hp → Prop} (hG : gok G) (hM : mok G M r_Mo_fairly Q K) (v0 : Nat) (v1 : Int32) (h : Hp) (F : (v1 = 0 → K none h) ∧ (¬ v1 = 0 → (kT h v0 = 12 ∧ kR h v0 22 = some (rf h v0 22) ∧ (kT h v0 = 12 ∧ sem G r_Mo_aims [.ref v0, .ref (rf h v0 22)] h (fun u2 h1 => ∃ x3 : Int32, u2 = some (.int x3) ∧ X G M Q 40 [(0, .ref v0), (2, .int x3), (3, .int 0)] [] h1))))) : X G M Q 25 [(0, .ref v0), (1, .int v1)] [] h := by
  refine x_iload_n hM d_Mo_fairly_25 rfl 1 rfl ?_
  refine x_if_eq (tgt := 238) hM d_Mo_fairly_26 (by decide) (fun q7 => ?_) (fun q7 => ?_)
  · replace F := F.1 q7
    exact x_return hM d_Mo_fairly_238 rfl F
  · replace F := F.2 q7
    refine x_aload_n hM d_Mo_fairly_29 rfl 0 rfl ?_
    refine x_aload_n hM d_Mo_fairly_30 rfl 0 rfl ?_
    obtain ⟨c5, F⟩ := F
    obtain ⟨c6, F⟩ := F
    refine x_getr hG hM ck_Mo 22 (Nat.le_of_ble_eq_true rfl) rfl rfl w_919 rfl d_Mo_fairly_31 c5 c6 ?_
    obtain ⟨c4, F⟩ := F
    refine x_callV hG hM (r' := r_Mo_aims) (ci := 11) [.ref (rf h v0 22)] rfl rfl (Nat.le_of_ble_eq_true rfl) yk_Mo_aims ⟨Nat.le_of_ble_eq_true rfl, Nat.le_of_ble_eq_true rfl⟩ w_1124 w_1126 ws_Mo_aims rfl rfl (Nat.le_of_ble_eq_true rfl) d_Mo_fairly_34 c4 (sem_mono F ?_)
    intro u2 h1 F
    obtain ⟨x3, rfl, F⟩ := F
    refine x_istore_n (lv2 := [(2, .int x3), (0, .ref v0), (1, .int v1)]) hM d_Mo_fairly_37 rfl (Nat.le_of_ble_eq_true rfl) rfl ?_
    refine x_iconst (v := 0) hM d_Mo_fairly_38 (by decide) ?_
    refine x_istore_n (lv2 := [(3, .int 0), (2, .int x3), (0, .ref v0), (1, .int v1)]) hM d_Mo_fairly_39 rfl (Nat.le_of_ble_eq_true rfl) rfl ?_
    refine x_sub [2, 1, 0] rfl ?_
    exact F
set_option maxRecDepth 100000 in
set_option maxHeartbeats 4000000 in
theorem S_Mo_fairly_40 {G : Gc} {M : Mc} {Q : State → Prop} {K : Option Value → Hp → Prop} (hG : gok G) (hM : mok G M r_Mo_fairly Q K) (v0 : Nat) (v2 : Int32) (v3 : Int32) (h : Hp) (F : (v2 ≤ v3 → X G M Q 171 [(0, .ref v0), (1, .int 0), (3, .int 0)] [] h) ∧ (¬ v2 ≤ v3 → (kT h v0 = 12 ∧ kR h v0 16 = some (rf h v0 16) ∧ (kT h v0 = 12 ∧ kR h v0 23 = some (rf h v0 23) ∧ (kT h (rf h v0 23) = 50 ∧ vp_in v3 (kN h (rf h v0 23)) ∧ (kT h (rf h v0 16) = 50 ∧ vp_in (kI h (rf h v0 23) (Int32.toNatClampNeg v3)) (kN h (rf h v0 16)) ∧ X G M Q 58 [(0, .ref v0), (2, .int v2), (3, .int v3), (4, .int (kI h (rf h v0 16) (Int32.toNatClampNeg (kI h (rf h v0 23) (Int32.toNatClampNeg v3)))))] [] h)))))) : X G M Q 40 [(0, .ref v0), (2, .int v2), (3, .int v3)] [] h := by
  refine x_iload_n hM d_Mo_fairly_40 rfl 2 rfl ?_
  refine x_iload_n hM d_Mo_fairly_41 rfl 1 rfl ?_
  refine x_icmp_ge (tgt := 167) hM d_Mo_fairly_42 (by decide) (fun q9 => ?_) (fun q9 => ?_)
  · replace F := F.1 q9
    refine x_iconst (v := 0) hM d_Mo_fairly_167 (by decide) ?_
    refine x_istore_n (lv2 := [(1, .int 0), (0, .ref v0), (2, .int v2), (3, .int v3)]) hM d_Mo_fairly_168 rfl (Nat.le_of_ble_eq_true rfl) rfl ?_
    refine x_iconst (v := 0) hM d_Mo_fairly_169 (by decide) ?_
    refine x_istore_n (lv2 := [(3, .int 0), (1, .int 0), (0, .ref v0), (2, .int v2)]) hM d_Mo_fairly_170 rfl (Nat.le_of_ble_eq_true rfl) rfl ?_
    refine x_sub [2, 1, 0] rfl ?_
    exact F
  · replace F := F.2 q9
    refine x_aload_n hM d_Mo_fairly_45 rfl 0 rfl ?_
    obtain ⟨c7, F⟩ := F
    obtain ⟨c8, F⟩ := F
    refine x_getr hG hM ck_Mo 16 (Nat.le_of_ble_eq_true rfl) rfl rfl w_913 rfl d_Mo_fairly_46 c7 c8 ?_
    refine x_aload_n hM d_Mo_fairly_49 rfl 0 rfl ?_
    obtain ⟨c5, F⟩ := F
    obtain ⟨c6, F⟩ := F
    refine x_getr hG hM ck_Mo 23 (Nat.le_of_ble_eq_true rfl) rfl rfl w_920 rfl d_Mo_fairly_50 c5 c6 ?_
    refine x_iload_n hM d_Mo_fairly_53 rfl 2 rfl ?_
    obtain ⟨c3, F⟩ := F
    obtain ⟨c4, F⟩ := F
    refine x_iaload hG hM d_Mo_fairly_54 c3 c4 ?_
    obtain ⟨c1, F⟩ := F
    obtain ⟨c2, F⟩ := F
    refine x_iaload hG hM d_Mo_fairly_55 c1 c2 ?_
    refine x_istore (lv2 := [(4, .int (kI h (rf h v0 16) (Int32.toNatClampNeg (kI h (rf h v0 23) (Int32.toNatClampNeg v3))))), (0, .ref v0), (2, .int v2), (3, .int v3)]) hM d_Mo_fairly_56 (Nat.le_of_ble_eq_true rfl) rfl ?_
    refine x_sub [1, 2, 3, 0] rfl ?_
    exact F
set_option maxRecDepth 100000 in
set_option maxHeartbeats 4000000 in
theorem S_Mo_fairly_58 {G : Gc} {M : Mc} {Q : State → Prop} {K : Option Value → Hp → Prop} (hG : gok G) (hM : mok G M r_Mo_fairly Q K) (v0 : Nat) (v2 : Int32) (v3 : Int32) (v4 : Int32) (h : Hp) (F : (v4 = (-1) → X G M Q 40 [(0, .ref v0), (2, .int v2), (3, .int (v3 + 1))] [] h) ∧ (¬ v4 = (-1) → (kT h v0 = 12 ∧ kR h v0 17 = some (rf h v0 17) ∧ (kT h (rf h v0 17) = 50 ∧ vp_in v4 (kN h (rf h v0 17)) ∧ (kT h v0 = 12 ∧ kR h v0 22 = some (rf h v0 22) ∧ (kT h (rf h v0 22) = 50 ∧ vp_in ((kI h (rf h v0 17) (Int32.toNatClampNeg v4)) / 36) (kN h (rf h v0 22)) ∧ (((kI h (rf h v0 22) (Int32.toNatClampNeg ((kI h (rf h v0 17) (Int32.toNatClampNeg v4)) / 36))) = (-1) → (kT h v0 = 12 ∧ kR h v0 25 = some (rf h v0 25) ∧ (kT h (rf h v0 25) = 51 ∧ vp_in ((kI h (rf h v0 17) (Int32.toNatClampNeg v4)) / 36) (kN h (rf h v0 25)) ∧ (((kI h (rf h v0 25) (Int32.toNatClampNeg ((kI h (rf h v0 17) (Int32.toNatClampNeg v4)) / 36))) = 0 → (kT h v0 = 12 ∧ kR h v0 18 = some (rf h v0 18) ∧ (kT h (rf h v0 18) = 50 ∧ vp_in v4 (kN h (rf h v0 18)) ∧ X G M Q 58 [(0, .ref v0), (2, .int v2), (3, .int v3), (4, .int (kI h (rf h v0 18) (Int32.toNatClampNeg v4)))] [] h))) ∧ (¬ (kI h (rf h v0 25) (Int32.toNatClampNeg ((kI h (rf h v0 17) (Int32.toNatClampNeg v4)) / 36))) = 0 → (kT h v0 = 12 ∧ kR h v0 17 = some (rf h v0 17) ∧ (kT h (rf h v0 17) = 50 ∧ vp_in v4 (kN h (rf h v0 17)) ∧ (kT h v0 = 12 ∧ sem G r_Mo_staysWon [.ref v0, .int ((kI h (rf h v0 17) (Int32.toNatClampNeg v4)) / 36), .int (((kI h (rf h v0 17) (Int32.toNatClampNeg v4)) - (kI h (rf h v0 17) (Int32.toNatClampNeg v4)) / 36 * 36) / 3)] h (fun u10 h9 => ∃ x11 : Int32, u10 = some (.int x11) ∧ ((x11 = 0 → (kT h9 v0 = 12 ∧ kR h9 v0 18 = some (rf h9 v0 18) ∧ (kT h9 (rf h9 v0 18) = 50 ∧ vp_in v4 (kN h9 (rf h9 v0 18)) ∧ X G M Q 58 [(0, .ref v0), (2, .int v2), (3, .int v3), (4, .int (kI h9 (rf h9 v0 18) (Int32.toNatClampNeg v4)))] [] h9))) ∧ (¬ x11 = 0 → (kT h9 v0 = 12 ∧ kR h9 v0 22 = some (rf h9 v0 22) ∧ (kT h9 v0 = 12 ∧ kR h9 v0 22 = some (rf h9 v0 22) ∧ (kT h9 v0 = 12 ∧ kR h9 v0 23 = some (rf h9 v0 23) ∧ (kT h9 (rf h9 v0 23) = 50 ∧ vp_in v3 (kN h9 (rf h9 v0 23)) ∧ (kT h9 (rf h9 v0 22) = 50 ∧ vp_in (kI h9 (rf h9 v0 23) (Int32.toNatClampNeg v3)) (kN h9 (rf h9 v0 22)) ∧ (kT h9 (rf h9 v0 22) = 50 ∧ vp_in ((kI h (rf h v0 17) (Int32.toNatClampNeg v4)) / 36) (kN h9 (rf h9 v0 22)) ∧ (∀ h16 : Hp, h16 = wI h9 (rf h9 v0 22) (Int32.toNatClampNeg ((kI h (rf h v0 17) (Int32.toNatClampNeg v4)) / 36)) ((kI h9 (rf h9 v0 22) (Int32.toNatClampNeg (kI h9 (rf h9 v0 23) (Int32.toNatClampNeg v3)))) + 1) → (kT h16 v0 = 12 ∧ kR h16 v0 23 = some (rf h16 v0 23) ∧ (kT h16 (rf h16 v0 23) = 50 ∧ vp_in v2 (kN h16 (rf h16 v0 23)) ∧ (∀ h17 : Hp, h17 = wI h16 (rf h16 v0 23) (Int32.toNatClampNeg v2) ((kI h (rf h v0 17) (Int32.toNatClampNeg v4)) / 36) → (kT h17 v0 = 12 ∧ kR h17 v0 18 = some (rf h17 v0 18) ∧ (kT h17 (rf h17 v0 18) = 50 ∧ vp_in v4 (kN h17 (rf h17 v0 18)) ∧ X G M Q 58 [(0, .ref v0), (2, .int (v2 + 1)), (3, .int v3), (4, .int (kI h17 (rf h17 v0 18) (Int32.toNatClampNeg v4)))] [] h17))))))))))))))))))))))) ∧ (¬ (kI h (rf h v0 22) (Int32.toNatClampNeg ((kI h (rf h v0 17) (Int32.toNatClampNeg v4)) / 36))) = (-1) → (kT h v0 = 12 ∧ kR h v0 18 = some (rf h v0 18) ∧ (kT h (rf h v0 18) = 50 ∧ vp_in v4 (kN h (rf h v0 18)) ∧ X G M Q 58 [(0, .ref v0), (2, .int v2), (3, .int v3), (4, .int (kI h (rf h v0 18) (Int32.toNatClampNeg v4)))] [] h)))))))))) : X G M Q 58 [(0, .ref v0), (2, .int v2), (3, .int v3), (4, .int v4)] [] h := by
  refine x_iload hM d_Mo_fairly_58 3 rfl ?_
  refine x_iconst (v := (-1)) hM d_Mo_fairly_60 (by decide) ?_
  refine x_icmp_eq (tgt := 161) hM d_Mo_fairly_61 (by decide) (fun q58 => ?_) (fun q58 => ?_)
  · replace F := F.1 q58
    refine x_iinc (v := (v3 + 1)) (lv2 := [(3, .int (v3 + 1)), (0, .ref v0), (2, .int v2), (4, .int v4)]) hM d_Mo_fairly_161 (j := 2) rfl rfl (Nat.le_of_ble_eq_true rfl) rfl ?_
    refine x_goto (tgt := 40) hM d_Mo_fairly_164 (by decide) ?_
    refine x_sub [1, 2, 0] rfl ?_
    exact F
  · replace F := F.2 q58
    refine x_aload_n hM d_Mo_fairly_64 rfl 0 rfl ?_
    obtain ⟨c56, F⟩ := F
    obtain ⟨c57, F⟩ := F
    refine x_getr hG hM ck_Mo 17 (Nat.le_of_ble_eq_true rfl) rfl rfl w_914 rfl d_Mo_fairly_65 c56 c57 ?_
    refine x_iload hM d_Mo_fairly_68 3 rfl ?_
    obtain ⟨c54, F⟩ := F
    obtain ⟨c55, F⟩ := F
    refine x_iaload hG hM d_Mo_fairly_70 c54 c55 ?_
    refine x_bipush (v := 36) hM d_Mo_fairly_71 (by decide) ?_
    refine x_idiv hM d_Mo_fairly_73 (by decide) ?_
    refine x_istore (lv2 := [(5, .int ((kI h (rf h v0 17) (Int32.toNatClampNeg v4)) / 36)), (0, .ref v0), (2, .int v2), (3, .int v3), (4, .int v4)]) hM d_Mo_fairly_74 (Nat.le_of_ble_eq_true rfl) rfl ?_
    refine x_aload_n hM d_Mo_fairly_76 rfl 1 rfl ?_
    obtain ⟨c52, F⟩ := F
    obtain ⟨c53, F⟩ := F
    refine x_getr hG hM ck_Mo 22 (Nat.le_of_ble_eq_true rfl) rfl rfl w_919 rfl d_Mo_fairly_77 c52 c53 ?_
    refine x_iload hM d_Mo_fairly_80 0 rfl ?_
    obtain ⟨c50, F⟩ := F
    obtain ⟨c51, F⟩ := F
    refine x_iaload hG hM d_Mo_fairly_82 c50 c51 ?_
    refine x_iconst (v := (-1)) hM d_Mo_fairly_83 (by decide) ?_
    refine x_icmp_ne (tgt := 149) hM d_Mo_fairly_84 (by decide) (fun q49 => ?_) (fun q49 => ?_)
    · replace F := F.2 q49
      refine x_aload_n hM d_Mo_fairly_149 rfl 1 rfl ?_
      obtain ⟨c3, F⟩ := F
      obtain ⟨c4, F⟩ := F
      refine x_getr hG hM ck_Mo 18 (Nat.le_of_ble_eq_true rfl) rfl rfl w_915 rfl d_Mo_fairly_150 c3 c4 ?_
      refine x_iload hM d_Mo_fairly_153 4 rfl ?_
      obtain ⟨c1, F⟩ := F
      obtain ⟨c2, F⟩ := F
      refine x_iaload hG hM d_Mo_fairly_155 c1 c2 ?_
      refine x_istore (lv2 := [(4, .int (kI h (rf h v0 18) (Int32.toNatClampNeg v4))), (5, .int ((kI h (rf h v0 17) (Int32.toNatClampNeg v4)) / 36)), (0, .ref v0), (2, .int v2), (3, .int v3)]) hM d_Mo_fairly_156 (Nat.le_of_ble_eq_true rfl) rfl ?_
      refine x_goto (tgt := 58) hM d_Mo_fairly_158 (by decide) ?_
      refine x_sub [2, 3, 4, 0] rfl ?_
      exact F
    · replace F := F.1 q49
      refine x_aload_n hM d_Mo_fairly_87 rfl 1 rfl ?_
      obtain ⟨c47, F⟩ := F
      obtain ⟨c48, F⟩ := F
      refine x_getr hG hM ck_Mo 25 (Nat.le_of_ble_eq_true rfl) rfl rfl w_922 rfl d_Mo_fairly_88 c47 c48 ?_
      refine x_iload hM d_Mo_fairly_91 0 rfl ?_
      obtain ⟨c45, F⟩ := F
      obtain ⟨c46, F⟩ := F
      refine x_zaload hG hM d_Mo_fairly_93 c45 c46 ?_
      refine x_if_eq (tgt := 149) hM d_Mo_fairly_94 (by decide) (fun q44 => ?_) (fun q44 => ?_)
      · replace F := F.1 q44
        refine x_aload_n hM d_Mo_fairly_149 rfl 1 rfl ?_
        obtain ⟨c7, F⟩ := F
        obtain ⟨c8, F⟩ := F
        refine x_getr hG hM ck_Mo 18 (Nat.le_of_ble_eq_true rfl) rfl rfl w_915 rfl d_Mo_fairly_150 c7 c8 ?_
        refine x_iload hM d_Mo_fairly_153 4 rfl ?_
        obtain ⟨c5, F⟩ := F
        obtain ⟨c6, F⟩ := F
        refine x_iaload hG hM d_Mo_fairly_155 c5 c6 ?_
        refine x_istore (lv2 := [(4, .int (kI h (rf h v0 18) (Int32.toNatClampNeg v4))), (5, .int ((kI h (rf h v0 17) (Int32.toNatClampNeg v4)) / 36)), (0, .ref v0), (2, .int v2), (3, .int v3)]) hM d_Mo_fairly_156 (Nat.le_of_ble_eq_true rfl) rfl ?_
        refine x_goto (tgt := 58) hM d_Mo_fairly_158 (by decide) ?_
        refine x_sub [2, 3, 4, 0] rfl ?_
        exact F
      · replace F := F.2 q44
        refine x_aload_n hM d_Mo_fairly_97 rfl 1 rfl ?_
        refine x_iload hM d_Mo_fairly_98 0 rfl ?_
        refine x_aload_n hM d_Mo_fairly_100 rfl 1 rfl ?_
        obtain ⟨c42, F⟩ := F
        obtain ⟨c43, F⟩ := F
        refine x_getr hG hM ck_Mo 17 (Nat.le_of_ble_eq_true rfl) rfl rfl w_914 rfl d_Mo_fairly_101 c42 c43 ?_
        refine x_iload hM d_Mo_fairly_104 4 rfl ?_
        obtain ⟨c40, F⟩ := F
        obtain ⟨c41, F⟩ := F
        refine x_iaload hG hM d_Mo_fairly_106 c40 c41 ?_
        refine x_bipush (v := 36) hM d_Mo_fairly_107 (by decide) ?_
        refine x_irem hM d_Mo_fairly_109 (by decide) ?_
        refine x_iconst (v := 3) hM d_Mo_fairly_110 (by decide) ?_
        refine x_idiv hM d_Mo_fairly_111 (by decide) ?_
        obtain ⟨c39, F⟩ := F
        refine x_callV hG hM (r' := r_Mo_staysWon) (ci := 11) [.int ((kI h (rf h v0 17) (Int32.toNatClampNeg v4)) / 36), .int (((kI h (rf h v0 17) (Int32.toNatClampNeg v4)) - (kI h (rf h v0 17) (Int32.toNatClampNeg v4)) / 36 * 36) / 3)] rfl rfl (Nat.le_of_ble_eq_true rfl) yk_Mo_staysWon ⟨Nat.le_of_ble_eq_true rfl, Nat.le_of_ble_eq_true rfl⟩ w_1136 w_1138 ws_Mo_staysWon rfl rfl (Nat.le_of_ble_eq_true rfl) d_Mo_fairly_112 c39 (sem_mono F ?_)
        intro u10 h9 F
        obtain ⟨x11, rfl, F⟩ := F
        refine x_if_eq (tgt := 149) hM d_Mo_fairly_115 (by decide) (fun q38 => ?_) (fun q38 => ?_)
        · replace F := F.1 q38
          refine x_aload_n hM d_Mo_fairly_149 rfl 1 rfl ?_
          obtain ⟨c14, F⟩ := F
          obtain ⟨c15, F⟩ := F
          refine x_getr hG hM ck_Mo 18 (Nat.le_of_ble_eq_true rfl) rfl rfl w_915 rfl d_Mo_fairly_150 c14 c15 ?_
          refine x_iload hM d_Mo_fairly_153 4 rfl ?_
          obtain ⟨c12, F⟩ := F
          obtain ⟨c13, F⟩ := F
          refine x_iaload hG hM d_Mo_fairly_155 c12 c13 ?_
          refine x_istore (lv2 := [(4, .int (kI h9 (rf h9 v0 18) (Int32.toNatClampNeg v4))), (5, .int ((kI h (rf h v0 17) (Int32.toNatClampNeg v4)) / 36)), (0, .ref v0), (2, .int v2), (3, .int v3)]) hM d_Mo_fairly_156 (Nat.le_of_ble_eq_true rfl) rfl ?_
          refine x_goto (tgt := 58) hM d_Mo_fairly_158 (by decide) ?_
          refine x_sub [2, 3, 4, 0] rfl ?_
          exact F
        · replace F := F.2 q38
          refine x_aload_n hM d_Mo_fairly_118 rfl 1 rfl ?_
          obtain ⟨c36, F⟩ := F
          obtain ⟨c37, F⟩ := F
          refine x_getr hG hM ck_Mo 22 (Nat.le_of_ble_eq_true rfl) rfl rfl w_919 rfl d_Mo_fairly_119 c36 c37 ?_
          refine x_iload hM d_Mo_fairly_122 0 rfl ?_
          refine x_aload_n hM d_Mo_fairly_124 rfl 1 rfl ?_
          obtain ⟨c34, F⟩ := F
          obtain ⟨c35, F⟩ := F
          refine x_getr hG hM ck_Mo 22 (Nat.le_of_ble_eq_true rfl) rfl rfl w_919 rfl d_Mo_fairly_125 c34 c35 ?_
          refine x_aload_n hM d_Mo_fairly_128 rfl 1 rfl ?_
          obtain ⟨c32, F⟩ := F
          obtain ⟨c33, F⟩ := F
          refine x_getr hG hM ck_Mo 23 (Nat.le_of_ble_eq_true rfl) rfl rfl w_920 rfl d_Mo_fairly_129 c32 c33 ?_
          refine x_iload_n hM d_Mo_fairly_132 rfl 3 rfl ?_
          obtain ⟨c30, F⟩ := F
          obtain ⟨c31, F⟩ := F
          refine x_iaload hG hM d_Mo_fairly_133 c30 c31 ?_
          obtain ⟨c28, F⟩ := F
          obtain ⟨c29, F⟩ := F
          refine x_iaload hG hM d_Mo_fairly_134 c28 c29 ?_
          refine x_iconst (v := 1) hM d_Mo_fairly_135 (by decide) ?_
          refine x_iadd hM d_Mo_fairly_136 ?_
          obtain ⟨c26, F⟩ := F
          obtain ⟨c27, F⟩ := F
          replace F := F _ rfl
          refine x_iastore hG hM d_Mo_fairly_137 c26 c27 ?_
          refine x_aload_n hM d_Mo_fairly_138 rfl 1 rfl ?_
          obtain ⟨c24, F⟩ := F
          obtain ⟨c25, F⟩ := F
          refine x_getr hG hM ck_Mo 23 (Nat.le_of_ble_eq_true rfl) rfl rfl w_920 rfl d_Mo_fairly_139 c24 c25 ?_
          refine x_iload_n hM d_Mo_fairly_142 rfl 2 rfl ?_
          refine x_iload hM d_Mo_fairly_143 0 rfl ?_
          obtain ⟨c22, F⟩ := F
          obtain ⟨c23, F⟩ := F
          replace F := F _ rfl
          refine x_iastore hG hM d_Mo_fairly_145 c22 c23 ?_
          refine x_iinc (v := (v2 + 1)) (lv2 := [(2, .int (v2 + 1)), (5, .int ((kI h (rf h v0 17) (Int32.toNatClampNeg v4)) / 36)), (0, .ref v0), (3, .int v3), (4, .int v4)]) hM d_Mo_fairly_146 (j := 2) rfl rfl (Nat.le_of_ble_eq_true rfl) rfl ?_
          refine x_aload_n hM d_Mo_fairly_149 rfl 2 rfl ?_
          obtain ⟨c20, F⟩ := F
          obtain ⟨c21, F⟩ := F
          refine x_getr hG hM ck_Mo 18 (Nat.le_of_ble_eq_true rfl) rfl rfl w_915 rfl d_Mo_fairly_150 c20 c21 ?_
          refine x_iload hM d_Mo_fairly_153 4 rfl ?_
          obtain ⟨c18, F⟩ := F
          obtain ⟨c19, F⟩ := F
          refine x_iaload hG hM d_Mo_fairly_155 c18 c19 ?_
          refine x_istore (lv2 := [(4, .int (kI h17 (rf h17 v0 18) (Int32.toNatClampNeg v4))), (2, .int (v2 + 1)), (5, .int ((kI h (rf h v0 17) (Int32.toNatClampNeg v4)) / 36)), (0, .ref v0), (3, .int v3)]) hM d_Mo_fairly_156 (Nat.le_of_ble_eq_true rfl) rfl ?_
          refine x_goto (tgt := 58) hM d_Mo_fairly_158 (by decide) ?_
          refine x_sub [3, 1, 4, 0] rfl ?_
          exact F
set_option maxRecDepth 100000 in
set_option maxHeartbeats 4000000 in
theorem S_Mo_fairly_171 {G : Gc} {M : Mc} {Q : State → Prop} {K : Option Value → Hp → Prop} (hG : gok G) (hM : mok G M r_Mo_fairly Q K) (v0 : Nat) (v1 : Int32) (v3 : Int32) (h : Hp) (F : kT h v0 = 12 ∧ (((kI h v0 13) ≤ v3 → X G M Q 25 [(0, .ref v0), (1, .int v1)] [] h) ∧ (¬ (kI h v0 13) ≤ v3 → ((v1 = 0 → (kT h v0 = 12 ∧ kR h v0 25 = some (rf h v0 25) ∧ kT h (rf h v0 25) = 51 ∧ vp_in v3 (kN h (rf h v0 25)) ∧ (¬ (kI h (rf h v0 25) (Int32.toNatClampNeg v3)) = 0 → (kT h v0 = 12 ∧ kR h v0 22 = some (rf h v0 22) ∧ kT h (rf h v0 22) = 50 ∧ vp_in v3 (kN h (rf h v0 22)))))) ∧ (∀ z1 : Int32, z1 = (if v1 = 0 then (if (kI h (rf h v0 25) (Int32.toNatClampNeg v3)) = 0 then 0 else (if (kI h (rf h v0 22) (Int32.toNatClampNeg v3)) = (-1) then 1 else 0)) else 1) → (kT h v0 = 12 ∧ kR h v0 25 = some (rf h v0 25) ∧ (kT h v0 = 12 ∧ kR h v0 22 = some (rf h v0 22) ∧ (kT h (rf h v0 22) = 50 ∧ vp_in v3 (kN h (rf h v0 22)) ∧ (∀ z2 : Int32, z2 = (if (kI h (rf h v0 22) (Int32.toNatClampNeg v3)) = (-1) then 0 else 1) → (kT h (rf h v0 25) = 51 ∧ vp_in v3 (kN h (rf h v0 25)) ∧ nb z2 ∧ (∀ h3 : Hp, h3 = wI h (rf h v0 25) (Int32.toNatClampNeg v3) z2 → X G M Q 171 [(0, .ref v0), (1, .int z1), (3, .int (v3 + 1))] [] h3))))))))))) : X G M Q 171 [(0, .ref v0), (1, .int v1), (3, .int v3)] [] h := by
  refine x_iload_n hM d_Mo_fairly_171 rfl 2 rfl ?_
  refine x_aload_n hM d_Mo_fairly_172 rfl 0 rfl ?_
  obtain ⟨c26, F⟩ := F
  refine x_geti hG hM ck_Mo 13 (Nat.le_of_ble_eq_true rfl) rfl rfl w_910 rfl d_Mo_fairly_173 c26 ?_
  refine x_icmp_ge (tgt := 235) hM d_Mo_fairly_176 (by decide) (fun q25 => ?_) (fun q25 => ?_)
  · replace F := F.1 q25
    refine x_goto (tgt := 25) hM d_Mo_fairly_235 (by decide) ?_
    refine x_sub [0, 1] rfl ?_
    exact F
  · replace F := F.2 q25
    refine x_iload_n hM d_Mo_fairly_179 rfl 1 rfl ?_
    obtain ⟨S, F⟩ := F
    have JJ : ∀ (z1 : Int32) (ez1 : z1 = (if v1 = 0 then (if (kI h (rf h v0 25) (Int32.toNatClampNeg v3)) = 0 then 0 else (if (kI h (rf h v0 22) (Int32.toNatClampNeg v3)) = (-1) then 1 else 0)) else 1)), X G M Q 207 [(0, .ref v0), (3, .int v3)] [.int z1] h := by
      intro z1 ez1
      replace F := F _ ez1
      refine x_istore_n (lv2 := [(1, .int z1), (0, .ref v0), (3, .int v3)]) hM d_Mo_fairly_207 rfl (Nat.le_of_ble_eq_true rfl) rfl ?_
      refine x_aload_n hM d_Mo_fairly_208 rfl 1 rfl ?_
      obtain ⟨c12, F⟩ := F
      obtain ⟨c13, F⟩ := F
      refine x_getr hG hM ck_Mo 25 (Nat.le_of_ble_eq_true rfl) rfl rfl w_922 rfl d_Mo_fairly_209 c12 c13 ?_
      refine x_iload_n hM d_Mo_fairly_212 rfl 2 rfl ?_
      refine x_aload_n hM d_Mo_fairly_213 rfl 1 rfl ?_
      obtain ⟨c10, F⟩ := F
      obtain ⟨c11, F⟩ := F
      refine x_getr hG hM ck_Mo 22 (Nat.le_of_ble_eq_true rfl) rfl rfl w_919 rfl d_Mo_fairly_214 c10 c11 ?_
      refine x_iload_n hM d_Mo_fairly_217 rfl 2 rfl ?_
      obtain ⟨c8, F⟩ := F
      obtain ⟨c9, F⟩ := F
      refine x_iaload hG hM d_Mo_fairly_218 c8 c9 ?_
      refine x_iconst (v := (-1)) hM d_Mo_fairly_219 (by decide) ?_
      have JJ : ∀ (z2 : Int32) (ez2 : z2 = (if (kI h (rf h v0 22) (Int32.toNatClampNeg v3)) = (-1) then 0 else 1)), X G M Q 228 [(0, .ref v0), (1, .int z1), (3, .int v3)] [.int z2, .int v3, .ref (rf h v0 25)] h := by
        intro z2 ez2
        replace F := F _ ez2
        obtain ⟨c4, F⟩ := F
        obtain ⟨c5, F⟩ := F
        obtain ⟨c6, F⟩ := F
        replace F := F _ rfl
        refine x_zastore hG hM d_Mo_fairly_228 c4 c5 c6 ?_
        refine x_iinc (v := (v3 + 1)) (lv2 := [(3, .int (v3 + 1)), (0, .ref v0), (1, .int z1)]) hM d_Mo_fairly_229 (j := 2) rfl rfl (Nat.le_of_ble_eq_true rfl) rfl ?_
        refine x_goto (tgt := 171) hM d_Mo_fairly_232 (by decide) ?_
        refine x_sub [1, 2, 0] rfl ?_
        exact F
      refine x_icmp_eq (tgt := 227) hM d_Mo_fairly_220 (by decide) (fun q7 => ?_) (fun q7 => ?_)
      · refine x_iconst (v := 0) hM d_Mo_fairly_227 (by decide) ?_
        refine x_sub [1, 0, 2] rfl ?_
        exact JJ _ (Eq.symm (if_pos q7))
      · refine x_iconst (v := 1) hM d_Mo_fairly_223 (by decide) ?_
        refine x_goto (tgt := 228) hM d_Mo_fairly_224 (by decide) ?_
        refine x_sub [1, 0, 2] rfl ?_
        exact JJ _ (Eq.symm (if_neg q7))
    refine x_if_ne (tgt := 202) hM d_Mo_fairly_180 (by decide) (fun q14 => ?_) (fun q14 => ?_)
    · refine x_iconst (v := 1) hM d_Mo_fairly_202 (by decide) ?_
      refine x_goto (tgt := 207) hM d_Mo_fairly_203 (by decide) ?_
      refine x_sub [0, 2] rfl ?_
      exact JJ _ (Eq.symm (if_neg q14))
    · replace S := S q14
      refine x_aload_n hM d_Mo_fairly_183 rfl 0 rfl ?_
      obtain ⟨c15, S⟩ := S
      obtain ⟨c16, S⟩ := S
      refine x_getr hG hM ck_Mo 25 (Nat.le_of_ble_eq_true rfl) rfl rfl w_922 rfl d_Mo_fairly_184 c15 c16 ?_
      refine x_iload_n hM d_Mo_fairly_187 rfl 2 rfl ?_
      obtain ⟨c17, S⟩ := S
      obtain ⟨c18, S⟩ := S
      refine x_zaload hG hM d_Mo_fairly_188 c17 c18 ?_
      refine x_if_eq (tgt := 206) hM d_Mo_fairly_189 (by decide) (fun q19 => ?_) (fun q19 => ?_)
      · refine x_iconst (v := 0) hM d_Mo_fairly_206 (by decide) ?_
        refine x_sub [0, 2] rfl ?_
        exact JJ _ (Eq.symm (Eq.trans (if_pos q14) (if_pos q19)))
      · replace S := S q19
        refine x_aload_n hM d_Mo_fairly_192 rfl 0 rfl ?_
        obtain ⟨c20, S⟩ := S
        obtain ⟨c21, S⟩ := S
        refine x_getr hG hM ck_Mo 22 (Nat.le_of_ble_eq_true rfl) rfl rfl w_919 rfl d_Mo_fairly_193 c20 c21 ?_
        refine x_iload_n hM d_Mo_fairly_196 rfl 2 rfl ?_
        obtain ⟨c22, S⟩ := S
        have c23 := S
        refine x_iaload hG hM d_Mo_fairly_197 c22 c23 ?_
        refine x_iconst (v := (-1)) hM d_Mo_fairly_198 (by decide) ?_
        refine x_icmp_ne (tgt := 206) hM d_Mo_fairly_199 (by decide) (fun q24 => ?_) (fun q24 => ?_)
        · refine x_iconst (v := 0) hM d_Mo_fairly_206 (by decide) ?_
          refine x_sub [0, 2] rfl ?_
          exact JJ _ (Eq.symm (Eq.trans (if_pos q14) (Eq.trans (if_neg q19) (if_neg q24))))
        · refine x_iconst (v := 1) hM d_Mo_fairly_202 (by decide) ?_
          refine x_goto (tgt := 207) hM d_Mo_fairly_203 (by decide) ?_
          refine x_sub [0, 2] rfl ?_
          exact JJ _ (Eq.symm (Eq.trans (if_pos q14) (Eq.trans (if_neg q19) (if_pos q24))))
set_option maxRecDepth 100000 in
set_option maxHeartbeats 4000000 in
theorem S_Mo_staysWon_0 {G : Gc} {M : Mc} {Q : State → Prop} {K : Option Value → Hp → Prop} (hG : gok G) (hM : mok G M r_Mo_staysWon Q K) (v0 : Nat) (v1 : Int32) (v2 : Int32) (h : Hp) (F : X G M Q 5 [(0, .ref v0), (1, .int v1), (2, .int v2), (3, .int 1), (4, .int 0)] [] h) : X G M Q 0 [(0, .ref v0), (1, .int v1), (2, .int v2)] [] h := by
  refine x_iconst (v := 1) hM d_Mo_staysWon_0 (by decide) ?_
  refine x_istore_n (lv2 := [(3, .int 1), (0, .ref v0), (1, .int v1), (2, .int v2)]) hM d_Mo_staysWon_1 rfl (Nat.le_of_ble_eq_true rfl) rfl ?_
  refine x_iconst (v := 0) hM d_Mo_staysWon_2 (by decide) ?_
  refine x_istore (lv2 := [(4, .int 0), (3, .int 1), (0, .ref v0), (1, .int v1), (2, .int v2)]) hM d_Mo_staysWon_3 (Nat.le_of_ble_eq_true rfl) rfl ?_
  refine x_sub [2, 3, 4, 1, 0] rfl ?_
  exact F
set_option maxRecDepth 100000 in
set_option maxHeartbeats 4000000 in
theorem S_Mo_staysWon_5 {G : Gc} {M : Mc} {Q : State → Prop} {K : Option Value → Hp → Prop} (hG : gok G) (hM : mok G M r_Mo_staysWon Q K) (v0 : Nat) (v1 : Int32) (v2 : Int32) (v3 : Int32) (v4 : Int32) (h : Hp) (F : kT h v0 = 12 ∧ kR h v0 4 = some (rf h v0 4) ∧ (kT h (rf h v0 4) = 50 ∧ vp_in v2 (kN h (rf h v0 4)) ∧ (((kI h (rf h v0 4) (Int32.toNatClampNeg v2)) ≤ v4 → (nb v3 ∧ K (some (.int v3)) h)) ∧ (¬ (kI h (rf h v0 4) (Int32.toNatClampNeg v2)) ≤ v4 → (kT h v0 = 12 ∧ kR h v0 14 = some (rf h v0 14) ∧ (kT h (rf h v0 14) = 50 ∧ vp_in (((36 * v1) + (3 * v2)) + v4) (kN h (rf h v0 14)) ∧ ((¬ v3 = 0 → (¬ (kI h (rf h v0 14) (Int32.toNatClampNeg (((36 * v1) + (3 * v2)) + v4))) = (-1) → (kT h v0 = 12 ∧ kR h v0 25 = some (rf h v0 25) ∧ kT h (rf h v0 25) = 51 ∧ vp_in (kI h (rf h v0 14) (Int32.toNatClampNeg (((36 * v1) + (3 * v2)) + v4))) (kN h (rf h v0 25))))) ∧ (∀ z1 : Int32, z1 = (if v3 = 0 then 0 else (if (kI h (rf h v0 14) (Int32.toNatClampNeg (((36 * v1) + (3 * v2)) + v4))) = (-1) then 0 else (if (kI h (rf h v0 25) (Int32.toNatClampNeg (kI h (rf h v0 14) (Int32.toNatClampNeg (((36 * v1) + (3 * v2)) + v4))))) = 0 then 0 else 1))) → X G M Q 5 [(0, .ref v0), (1, .int v1), (2, .int v2), (3, .int z1), (4, .int (v4 + 1))] [] h)))))))) : X G M Q 5 [(0, .ref v0), (1, .int v1), (2, .int v2), (3, .int v3), (4, .int v4)] [] h := by
  refine x_iload hM d_Mo_staysWon_5 4 rfl ?_
  refine x_aload_n hM d_Mo_staysWon_7 rfl 0 rfl ?_
  obtain ⟨c16, F⟩ := F
  obtain ⟨c17, F⟩ := F
  refine x_getr hG hM ck_Mo 4 (Nat.le_of_ble_eq_true rfl) rfl rfl w_901 rfl d_Mo_staysWon_8 c16 c17 ?_
  refine x_iload_n hM d_Mo_staysWon_11 rfl 2 rfl ?_
  obtain ⟨c14, F⟩ := F
  obtain ⟨c15, F⟩ := F
  refine x_iaload hG hM d_Mo_staysWon_12 c14 c15 ?_
  refine x_icmp_ge (tgt := 66) hM d_Mo_staysWon_13 (by decide) (fun q13 => ?_) (fun q13 => ?_)
  · replace F := F.1 q13
    refine x_iload_n hM d_Mo_staysWon_66 rfl 3 rfl ?_
    exact x_zreturn hM d_Mo_staysWon_67 rfl F.1 F.2
  · replace F := F.2 q13
    refine x_aload_n hM d_Mo_staysWon_16 rfl 0 rfl ?_
    obtain ⟨c11, F⟩ := F
    obtain ⟨c12, F⟩ := F
    refine x_getr hG hM ck_Mo 14 (Nat.le_of_ble_eq_true rfl) rfl rfl w_911 rfl d_Mo_staysWon_17 c11 c12 ?_
    refine x_bipush (v := 36) hM d_Mo_staysWon_20 (by decide) ?_
    refine x_iload_n hM d_Mo_staysWon_22 rfl 1 rfl ?_
    refine x_imul hM d_Mo_staysWon_23 ?_
    refine x_iconst (v := 3) hM d_Mo_staysWon_24 (by decide) ?_
    refine x_iload_n hM d_Mo_staysWon_25 rfl 2 rfl ?_
    refine x_imul hM d_Mo_staysWon_26 ?_
    refine x_iadd hM d_Mo_staysWon_27 ?_
    refine x_iload hM d_Mo_staysWon_28 4 rfl ?_
    refine x_iadd hM d_Mo_staysWon_30 ?_
    obtain ⟨c9, F⟩ := F
    obtain ⟨c10, F⟩ := F
    refine x_iaload hG hM d_Mo_staysWon_31 c9 c10 ?_
    refine x_istore (lv2 := [(5, .int (kI h (rf h v0 14) (Int32.toNatClampNeg (((36 * v1) + (3 * v2)) + v4)))), (0, .ref v0), (1, .int v1), (2, .int v2), (3, .int v3), (4, .int v4)]) hM d_Mo_staysWon_32 (Nat.le_of_ble_eq_true rfl) rfl ?_
    refine x_iload_n hM d_Mo_staysWon_34 rfl 4 rfl ?_
    obtain ⟨S, F⟩ := F
    have JJ : ∀ (z1 : Int32) (ez1 : z1 = (if v3 = 0 then 0 else (if (kI h (rf h v0 14) (Int32.toNatClampNeg (((36 * v1) + (3 * v2)) + v4))) = (-1) then 0 else (if (kI h (rf h v0 25) (Int32.toNatClampNeg (kI h (rf h v0 14) (Int32.toNatClampNeg (((36 * v1) + (3 * v2)) + v4))))) = 0 then 0 else 1)))), X G M Q 59 [(0, .ref v0), (1, .int v1), (2, .int v2), (4, .int v4)] [.int z1] h := by
      intro z1 ez1
      replace F := F _ ez1
      refine x_istore_n (lv2 := [(3, .int z1), (0, .ref v0), (1, .int v1), (2, .int v2), (4, .int v4)]) hM d_Mo_staysWon_59 rfl (Nat.le_of_ble_eq_true rfl) rfl ?_
      refine x_iinc (v := (v4 + 1)) (lv2 := [(4, .int (v4 + 1)), (3, .int z1), (0, .ref v0), (1, .int v1), (2, .int v2)]) hM d_Mo_staysWon_60 (j := 4) rfl rfl (Nat.le_of_ble_eq_true rfl) rfl ?_
      refine x_goto (tgt := 5) hM d_Mo_staysWon_63 (by decide) ?_
      refine x_sub [2, 3, 4, 1, 0] rfl ?_
      exact F
    refine x_if_eq (tgt := 58) hM d_Mo_staysWon_35 (by decide) (fun q2 => ?_) (fun q2 => ?_)
    · refine x_iconst (v := 0) hM d_Mo_staysWon_58 (by decide) ?_
      refine x_sub [1, 2, 3, 5] rfl ?_
      exact JJ _ (Eq.symm (if_pos q2))
    · replace S := S q2
      refine x_iload hM d_Mo_staysWon_38 0 rfl ?_
      refine x_iconst (v := (-1)) hM d_Mo_staysWon_40 (by decide) ?_
      refine x_icmp_eq (tgt := 58) hM d_Mo_staysWon_41 (by decide) (fun q3 => ?_) (fun q3 => ?_)
      · refine x_iconst (v := 0) hM d_Mo_staysWon_58 (by decide) ?_
        refine x_sub [1, 2, 3, 5] rfl ?_
        exact JJ _ (Eq.symm (Eq.trans (if_neg q2) (if_pos q3)))
      · replace S := S q3
        refine x_aload_n hM d_Mo_staysWon_44 rfl 1 rfl ?_
        obtain ⟨c4, S⟩ := S
        obtain ⟨c5, S⟩ := S
        refine x_getr hG hM ck_Mo 25 (Nat.le_of_ble_eq_true rfl) rfl rfl w_922 rfl d_Mo_staysWon_45 c4 c5 ?_
        refine x_iload hM d_Mo_staysWon_48 0 rfl ?_
        obtain ⟨c6, S⟩ := S
        have c7 := S
        refine x_zaload hG hM d_Mo_staysWon_50 c6 c7 ?_
        refine x_if_eq (tgt := 58) hM d_Mo_staysWon_51 (by decide) (fun q8 => ?_) (fun q8 => ?_)
        · refine x_iconst (v := 0) hM d_Mo_staysWon_58 (by decide) ?_
          refine x_sub [1, 2, 3, 5] rfl ?_
          exact JJ _ (Eq.symm (Eq.trans (if_neg q2) (Eq.trans (if_neg q3) (if_pos q8))))
        · refine x_iconst (v := 1) hM d_Mo_staysWon_54 (by decide) ?_
          refine x_goto (tgt := 59) hM d_Mo_staysWon_55 (by decide) ?_
          refine x_sub [1, 2, 3, 5] rfl ?_
          exact JJ _ (Eq.symm (Eq.trans (if_neg q2) (Eq.trans (if_neg q3) (if_neg q8))))
set_option maxRecDepth 100000 in
set_option maxHeartbeats 4000000 in
theorem S_Mo_partAll_0 {G : Gc} {M : Mc} {Q : State → Prop} {K : Option Value → Hp → Prop} (hG : gok G) (hM : mok G M r_Mo_partAll Q K) (v0 : Nat) (h : Hp) (F : kT h v0 = 12 ∧ sem G r_Mo_lay [.ref v0] h (fun u2 h1 => u2 = none ∧ (kT h1 v0 = 12 ∧ (((kI h1 v0 26) = 0 → (kT h1 v0 = 12 ∧ (∀ h3 : Hp, h3 = wI h1 v0 26 1 → X G M Q 21 [(0, .ref v0), (1, .int 0), (2, .int 0)] [] h3))) ∧ (¬ (kI h1 v0 26) = 0 → K none h1))))) : X G M Q 0 [(0, .ref v0)] [] h := by
  refine x_aload_n hM d_Mo_partAll_0 rfl 0 rfl ?_
  obtain ⟨c7, F⟩ := F
  refine x_callV hG hM (r' := r_Mo_lay) (ci := 11) [] rfl rfl (Nat.le_of_ble_eq_true rfl) yk_Mo_lay ⟨Nat.le_of_ble_eq_true rfl, Nat.le_of_ble_eq_true rfl⟩ w_1112 w_1114 ws_Mo_lay rfl rfl (Nat.le_of_ble_eq_true rfl) d_Mo_partAll_1 c7 (sem_mono F ?_)
  intro u2 h1 F
  obtain ⟨rfl, F⟩ := F
  refine x_aload_n hM d_Mo_partAll_4 rfl 0 rfl ?_
  obtain ⟨c6, F⟩ := F
  refine x_geti hG hM ck_Mo 26 (Nat.le_of_ble_eq_true rfl) rfl rfl w_923 rfl d_Mo_partAll_5 c6 ?_
  refine x_if_eq (tgt := 12) hM d_Mo_partAll_8 (by decide) (fun q5 => ?_) (fun q5 => ?_)
  · replace F := F.1 q5
    refine x_aload_n hM d_Mo_partAll_12 rfl 0 rfl ?_
    refine x_iconst (v := 1) hM d_Mo_partAll_13 (by decide) ?_
    obtain ⟨c4, F⟩ := F
    replace F := F _ rfl
    refine x_putz hG hM ck_Mo 26 (Nat.le_of_ble_eq_true rfl) rfl rfl w_923 rfl d_Mo_partAll_14 (Or.inl rfl) c4 (Or.inr rfl) ?_
    refine x_iconst (v := 0) hM d_Mo_partAll_17 (by decide) ?_
    refine x_istore_n (lv2 := [(1, .int 0), (0, .ref v0)]) hM d_Mo_partAll_18 rfl (Nat.le_of_ble_eq_true rfl) rfl ?_
    refine x_iconst (v := 0) hM d_Mo_partAll_19 (by decide) ?_
    refine x_istore_n (lv2 := [(2, .int 0), (1, .int 0), (0, .ref v0)]) hM d_Mo_partAll_20 rfl (Nat.le_of_ble_eq_true rfl) rfl ?_
    refine x_sub [2, 1, 0] rfl ?_
    exact F
  · replace F := F.2 q5
    exact x_return hM d_Mo_partAll_11 rfl F
set_option maxRecDepth 100000 in
set_option maxHeartbeats 4000000 in
theorem S_Mo_partAll_21 {G : Gc} {M : Mc} {Q : State → Prop} {K : Option Value → Hp → Prop} (hG : gok G) (hM : mok G M r_Mo_partAll Q K) (v0 : Nat) (v1 : Int32) (v2 : Int32) (h : Hp) (F : kT h v0 = 12 ∧ (((kI h v0 13) ≤ v2 → (kT h v0 = 12 ∧ (∀ h1 : Hp, h1 = wI h v0 32 1 → X G M Q 62 [(0, .ref v0), (1, .int v1), (2, .int 1)] [] h1))) ∧ (¬ (kI h v0 13) ≤ v2 → (kT h v0 = 12 ∧ kR h v0 27 = some (rf h v0 27) ∧ (kT h v0 = 12 ∧ kR h v0 15 = some (rf h v0 15) ∧ (kT h (rf h v0 15) = 51 ∧ vp_in v2 (kN h (rf h v0 15)) ∧ (∀ z3 : Int32, z3 = (if (kI h (rf h v0 15) (Int32.toNatClampNeg v2)) = 0 then 0 else 1) → (kT h (rf h v0 27) = 50 ∧ vp_in v2 (kN h (rf h v0 27)) ∧ (∀ h4 : Hp, h4 = wI h (rf h v0 27) (Int32.toNatClampNeg v2) z3 → X G M Q 21 [(0, .ref v0), (1, .int v1), (2, .int (v2 + 1))] [] h4))))))))) : X G M Q 21 [(0, .ref v0), (1, .int v1), (2, .int v2)] [] h := by
  refine x_iload_n hM d_Mo_partAll_21 rfl 2 rfl ?_
  refine x_aload_n hM d_Mo_partAll_22 rfl 0 rfl ?_
  obtain ⟨c15, F⟩ := F
  refine x_geti hG hM ck_Mo 13 (Nat.le_of_ble_eq_true rfl) rfl rfl w_910 rfl d_Mo_partAll_23 c15 ?_
  refine x_icmp_ge (tgt := 55) hM d_Mo_partAll_26 (by decide) (fun q14 => ?_) (fun q14 => ?_)
  · replace F := F.1 q14
    refine x_aload_n hM d_Mo_partAll_55 rfl 0 rfl ?_
    refine x_iconst (v := 1) hM d_Mo_partAll_56 (by decide) ?_
    obtain ⟨c2, F⟩ := F
    replace F := F _ rfl
    refine x_puti hG hM ck_Mo 32 (Nat.le_of_ble_eq_true rfl) rfl rfl w_929 rfl d_Mo_partAll_57 (Or.inl rfl) c2 ?_
    refine x_iconst (v := 1) hM d_Mo_partAll_60 (by decide) ?_
    refine x_istore_n (lv2 := [(2, .int 1), (0, .ref v0), (1, .int v1)]) hM d_Mo_partAll_61 rfl (Nat.le_of_ble_eq_true rfl) rfl ?_
    refine x_sub [1, 2, 0] rfl ?_
    exact F
  · replace F := F.2 q14
    refine x_aload_n hM d_Mo_partAll_29 rfl 0 rfl ?_
    obtain ⟨c12, F⟩ := F
    obtain ⟨c13, F⟩ := F
    refine x_getr hG hM ck_Mo 27 (Nat.le_of_ble_eq_true rfl) rfl rfl w_924 rfl d_Mo_partAll_30 c12 c13 ?_
    refine x_iload_n hM d_Mo_partAll_33 rfl 2 rfl ?_
    refine x_aload_n hM d_Mo_partAll_34 rfl 0 rfl ?_
    obtain ⟨c10, F⟩ := F
    obtain ⟨c11, F⟩ := F
    refine x_getr hG hM ck_Mo 15 (Nat.le_of_ble_eq_true rfl) rfl rfl w_912 rfl d_Mo_partAll_35 c10 c11 ?_
    refine x_iload_n hM d_Mo_partAll_38 rfl 2 rfl ?_
    obtain ⟨c8, F⟩ := F
    obtain ⟨c9, F⟩ := F
    refine x_zaload hG hM d_Mo_partAll_39 c8 c9 ?_
    have JJ : ∀ (z3 : Int32) (ez3 : z3 = (if (kI h (rf h v0 15) (Int32.toNatClampNeg v2)) = 0 then 0 else 1)), X G M Q 48 [(0, .ref v0), (1, .int v1), (2, .int v2)] [.int z3, .int v2, .ref (rf h v0 27)] h := by
      intro z3 ez3
      replace F := F _ ez3
      obtain ⟨c5, F⟩ := F
      obtain ⟨c6, F⟩ := F
      replace F := F _ rfl
      refine x_iastore hG hM d_Mo_partAll_48 c5 c6 ?_
      refine x_iinc (v := (v2 + 1)) (lv2 := [(2, .int (v2 + 1)), (0, .ref v0), (1, .int v1)]) hM d_Mo_partAll_49 (j := 2) rfl rfl (Nat.le_of_ble_eq_true rfl) rfl ?_
      refine x_goto (tgt := 21) hM d_Mo_partAll_52 (by decide) ?_
      refine x_sub [1, 2, 0] rfl ?_
      exact F
    refine x_if_eq (tgt := 47) hM d_Mo_partAll_40 (by decide) (fun q7 => ?_) (fun q7 => ?_)
    · refine x_iconst (v := 0) hM d_Mo_partAll_47 (by decide) ?_
      exact JJ _ (Eq.symm (if_pos q7))
    · refine x_iconst (v := 1) hM d_Mo_partAll_43 (by decide) ?_
      refine x_goto (tgt := 48) hM d_Mo_partAll_44 (by decide) ?_
      exact JJ _ (Eq.symm (if_neg q7))
set_option maxRecDepth 100000 in
set_option maxHeartbeats 4000000 in
theorem S_Mo_partAll_62 {G : Gc} {M : Mc} {Q : State → Prop} {K : Option Value → Hp → Prop} (hG : gok G) (hM : mok G M r_Mo_partAll Q K) (v0 : Nat) (v1 : Int32) (v2 : Int32) (h : Hp) (F : (v2 = 0 → K none h) ∧ (¬ v2 = 0 → X G M Q 68 [(0, .ref v0), (1, .int v1), (3, .int 0)] [] h)) : X G M Q 62 [(0, .ref v0), (1, .int v1), (2, .int v2)] [] h := by
  refine x_iload_n hM d_Mo_partAll_62 rfl 2 rfl ?_
  refine x_if_eq (tgt := 300) hM d_Mo_partAll_63 (by decide) (fun q1 => ?_) (fun q1 => ?_)
  · replace F := F.1 q1
    exact x_return hM d_Mo_partAll_300 rfl F
  · replace F := F.2 q1
    refine x_iconst (v := 0) hM d_Mo_partAll_66 (by decide) ?_
    refine x_istore_n (lv2 := [(3, .int 0), (0, .ref v0), (1, .int v1), (2, .int v2)]) hM d_Mo_partAll_67 rfl (Nat.le_of_ble_eq_true rfl) rfl ?_
    refine x_sub [1, 2, 0] rfl ?_
    exact F
set_option maxRecDepth 100000 in
set_option maxHeartbeats 4000000 in
theorem S_Mo_partAll_68 {G : Gc} {M : Mc} {Q : State → Prop} {K : Option Value → Hp → Prop} (hG : gok G) (hM : mok G M r_Mo_partAll Q K) (v0 : Nat) (v1 : Int32) (v3 : Int32) (h : Hp) (F : (8192 ≤ v3 → (kT h v0 = 12 ∧ (∀ h1 : Hp, h1 = wI h v0 32 0 → X G M Q 95 [(0, .ref v0), (1, .int v1), (3, .int 0)] [] h1))) ∧ (¬ 8192 ≤ v3 → (kT h v0 = 12 ∧ kR h v0 30 = some (rf h v0 30) ∧ (kT h (rf h v0 30) = 50 ∧ vp_in v3 (kN h (rf h v0 30)) ∧ (∀ h3 : Hp, h3 = wI h (rf h v0 30) (Int32.toNatClampNeg v3) (-1) → X G M Q 68 [(0, .ref v0), (1, .int v1), (3, .int (v3 + 1))] [] h3))))) : X G M Q 68 [(0, .ref v0), (1, .int v1), (3, .int v3)] [] h := by
  refine x_iload_n hM d_Mo_partAll_68 rfl 2 rfl ?_
  refine x_sipush (v := 8192) hM d_Mo_partAll_69 (by decide) ?_
  refine x_icmp_ge (tgt := 88) hM d_Mo_partAll_72 (by decide) (fun q8 => ?_) (fun q8 => ?_)
  · replace F := F.1 q8
    refine x_aload_n hM d_Mo_partAll_88 rfl 0 rfl ?_
    refine x_iconst (v := 0) hM d_Mo_partAll_89 (by decide) ?_
    obtain ⟨c2, F⟩ := F
    replace F := F _ rfl
    refine x_puti hG hM ck_Mo 32 (Nat.le_of_ble_eq_true rfl) rfl rfl w_929 rfl d_Mo_partAll_90 (Or.inl rfl) c2 ?_
    refine x_iconst (v := 0) hM d_Mo_partAll_93 (by decide) ?_
    refine x_istore_n (lv2 := [(3, .int 0), (0, .ref v0), (1, .int v1)]) hM d_Mo_partAll_94 rfl (Nat.le_of_ble_eq_true rfl) rfl ?_
    refine x_sub [1, 2, 0] rfl ?_
    exact F
  · replace F := F.2 q8
    refine x_aload_n hM d_Mo_partAll_75 rfl 0 rfl ?_
    obtain ⟨c6, F⟩ := F
    obtain ⟨c7, F⟩ := F
    refine x_getr hG hM ck_Mo 30 (Nat.le_of_ble_eq_true rfl) rfl rfl w_927 rfl d_Mo_partAll_76 c6 c7 ?_
    refine x_iload_n hM d_Mo_partAll_79 rfl 2 rfl ?_
    refine x_iconst (v := (-1)) hM d_Mo_partAll_80 (by decide) ?_
    obtain ⟨c4, F⟩ := F
    obtain ⟨c5, F⟩ := F
    replace F := F _ rfl
    refine x_iastore hG hM d_Mo_partAll_81 c4 c5 ?_
    refine x_iinc (v := (v3 + 1)) (lv2 := [(3, .int (v3 + 1)), (0, .ref v0), (1, .int v1)]) hM d_Mo_partAll_82 (j := 2) rfl rfl (Nat.le_of_ble_eq_true rfl) rfl ?_
    refine x_goto (tgt := 68) hM d_Mo_partAll_85 (by decide) ?_
    refine x_sub [1, 2, 0] rfl ?_
    exact F
set_option maxRecDepth 100000 in
set_option maxHeartbeats 4000000 in
theorem S_Mo_partAll_95 {G : Gc} {M : Mc} {Q : State → Prop} {K : Option Value → Hp → Prop} (hG : gok G) (hM : mok G M r_Mo_partAll Q K) (v0 : Nat) (v1 : Int32) (v3 : Int32) (h : Hp) (F : kT h v0 = 12 ∧ (((kI h v0 13) ≤ v3 → X G M Q 252 [(0, .ref v0), (1, .int v1), (3, .int 0)] [] h) ∧ (¬ (kI h v0 13) ≤ v3 → (kT h v0 = 12 ∧ kR h v0 29 = some (rf h v0 29) ∧ (kT h v0 = 12 ∧ sem G r_Mo_signOf [.ref v0, .int v3] h (fun u2 h1 => ∃ x3 : Int64, u2 = some (.long x3) ∧ (kT h1 (rf h v0 29) = 52 ∧ vp_in v3 (kN h1 (rf h v0 29)) ∧ (∀ h4 : Hp, h4 = wL h1 (rf h v0 29) (Int32.toNatClampNeg v3) x3 → (kT h4 v0 = 12 ∧ kR h4 v0 29 = some (rf h4 v0 29) ∧ (kT h4 (rf h4 v0 29) = 52 ∧ vp_in v3 (kN h4 (rf h4 v0 29)) ∧ (kT h4 v0 = 12 ∧ kR h4 v0 30 = some (rf h4 v0 30) ∧ (kT h4 (rf h4 v0 30) = 50 ∧ vp_in (Int64.toInt32 ((kL h4 (rf h4 v0 29) (Int32.toNatClampNeg v3)) &&& 8191)) (kN h4 (rf h4 v0 30)) ∧ X G M Q 136 [(0, .ref v0), (1, .int v1), (3, .int v3), (4, .int (Int64.toInt32 ((kL h4 (rf h4 v0 29) (Int32.toNatClampNeg v3)) &&& 8191))), (5, .int (kI h4 (rf h4 v0 30) (Int32.toNatClampNeg (Int64.toInt32 ((kL h4 (rf h4 v0 29) (Int32.toNatClampNeg v3)) &&& 8191)))))] [] h4)))))))))))) : X G M Q 95 [(0, .ref v0), (1, .int v1), (3, .int v3)] [] h := by
  refine x_iload_n hM d_Mo_partAll_95 rfl 2 rfl ?_
  refine x_aload_n hM d_Mo_partAll_96 rfl 0 rfl ?_
  obtain ⟨c19, F⟩ := F
  refine x_geti hG hM ck_Mo 13 (Nat.le_of_ble_eq_true rfl) rfl rfl w_910 rfl d_Mo_partAll_97 c19 ?_
  refine x_icmp_ge (tgt := 250) hM d_Mo_partAll_100 (by decide) (fun q18 => ?_) (fun q18 => ?_)
  · replace F := F.1 q18
    refine x_iconst (v := 0) hM d_Mo_partAll_250 (by decide) ?_
    refine x_istore_n (lv2 := [(3, .int 0), (0, .ref v0), (1, .int v1)]) hM d_Mo_partAll_251 rfl (Nat.le_of_ble_eq_true rfl) rfl ?_
    refine x_sub [1, 2, 0] rfl ?_
    exact F
  · replace F := F.2 q18
    refine x_aload_n hM d_Mo_partAll_103 rfl 0 rfl ?_
    obtain ⟨c16, F⟩ := F
    obtain ⟨c17, F⟩ := F
    refine x_getr hG hM ck_Mo 29 (Nat.le_of_ble_eq_true rfl) rfl rfl w_926 rfl d_Mo_partAll_104 c16 c17 ?_
    refine x_iload_n hM d_Mo_partAll_107 rfl 2 rfl ?_
    refine x_aload_n hM d_Mo_partAll_108 rfl 0 rfl ?_
    refine x_iload_n hM d_Mo_partAll_109 rfl 2 rfl ?_
    obtain ⟨c15, F⟩ := F
    refine x_callV hG hM (r' := r_Mo_signOf) (ci := 11) [.int v3] rfl rfl (Nat.le_of_ble_eq_true rfl) yk_Mo_signOf ⟨Nat.le_of_ble_eq_true rfl, Nat.le_of_ble_eq_true rfl⟩ w_1144 w_1146 ws_Mo_signOf rfl rfl (Nat.le_of_ble_eq_true rfl) d_Mo_partAll_110 c15 (sem_mono F ?_)
    intro u2 h1 F
    obtain ⟨x3, rfl, F⟩ := F
    obtain ⟨c13, F⟩ := F
    obtain ⟨c14, F⟩ := F
    replace F := F _ rfl
    refine x_lastore hG hM d_Mo_partAll_113 c13 c14 ?_
    refine x_aload_n hM d_Mo_partAll_114 rfl 0 rfl ?_
    obtain ⟨c11, F⟩ := F
    obtain ⟨c12, F⟩ := F
    refine x_getr hG hM ck_Mo 29 (Nat.le_of_ble_eq_true rfl) rfl rfl w_926 rfl d_Mo_partAll_115 c11 c12 ?_
    refine x_iload_n hM d_Mo_partAll_118 rfl 2 rfl ?_
    obtain ⟨c9, F⟩ := F
    obtain ⟨c10, F⟩ := F
    refine x_laload hG hM d_Mo_partAll_119 c9 c10 ?_
    refine x_ldc2 hG hM rfl w_1152 d_Mo_partAll_120 ?_
    refine x_land hM d_Mo_partAll_123 ?_
    refine x_l2i hM d_Mo_partAll_124 ?_
    refine x_istore (lv2 := [(4, .int (Int64.toInt32 ((kL h4 (rf h4 v0 29) (Int32.toNatClampNeg v3)) &&& 8191))), (0, .ref v0), (1, .int v1), (3, .int v3)]) hM d_Mo_partAll_125 (Nat.le_of_ble_eq_true rfl) rfl ?_
    refine x_aload_n hM d_Mo_partAll_127 rfl 1 rfl ?_
    obtain ⟨c7, F⟩ := F
    obtain ⟨c8, F⟩ := F
    refine x_getr hG hM ck_Mo 30 (Nat.le_of_ble_eq_true rfl) rfl rfl w_927 rfl d_Mo_partAll_128 c7 c8 ?_
    refine x_iload hM d_Mo_partAll_131 0 rfl ?_
    obtain ⟨c5, F⟩ := F
    obtain ⟨c6, F⟩ := F
    refine x_iaload hG hM d_Mo_partAll_133 c5 c6 ?_
    refine x_istore (lv2 := [(5, .int (kI h4 (rf h4 v0 30) (Int32.toNatClampNeg (Int64.toInt32 ((kL h4 (rf h4 v0 29) (Int32.toNatClampNeg v3)) &&& 8191))))), (4, .int (Int64.toInt32 ((kL h4 (rf h4 v0 29) (Int32.toNatClampNeg v3)) &&& 8191))), (0, .ref v0), (1, .int v1), (3, .int v3)]) hM d_Mo_partAll_134 (Nat.le_of_ble_eq_true rfl) rfl ?_
    refine x_sub [2, 3, 4, 1, 0] rfl ?_
    exact F
set_option maxRecDepth 100000 in
set_option maxHeartbeats 4000000 in
theorem S_Mo_partAll_136 {G : Gc} {M : Mc} {Q : State → Prop} {K : Option Value → Hp → Prop} (hG : gok G) (hM : mok G M r_Mo_partAll Q K) (v0 : Nat) (v1 : Int32) (v3 : Int32) (v4 : Int32) (v5 : Int32) (h : Hp) (F : (v5 = (-1) → X G M Q 181 [(0, .ref v0), (1, .int v1), (3, .int v3), (4, .int v4), (5, .int v5)] [] h) ∧ (¬ v5 = (-1) → (kT h v0 = 12 ∧ kR h v0 29 = some (rf h v0 29) ∧ (kT h (rf h v0 29) = 52 ∧ vp_in v5 (kN h (rf h v0 29)) ∧ (kT h v0 = 12 ∧ kR h v0 29 = some (rf h v0 29) ∧ (kT h (rf h v0 29) = 52 ∧ vp_in v3 (kN h (rf h v0 29)) ∧ (((lg_cmp (kL h (rf h v0 29) (Int32.toNatClampNeg v5)) (kL h (rf h v0 29) (Int32.toNatClampNeg v3))) = 0 → (kT h v0 = 12 ∧ sem G r_Mo_areAlike [.ref v0, .int v3, .int v5] h (fun u6 h5 => ∃ x7 : Int32, u6 = some (.int x7) ∧ ((x7 = 0 → (kT h5 v0 = 12 ∧ kR h5 v0 31 = some (rf h5 v0 31) ∧ (kT h5 (rf h5 v0 31) = 50 ∧ vp_in v5 (kN h5 (rf h5 v0 31)) ∧ X G M Q 136 [(0, .ref v0), (1, .int v1), (3, .int v3), (4, .int v4), (5, .int (kI h5 (rf h5 v0 31) (Int32.toNatClampNeg v5)))] [] h5))) ∧ (¬ x7 = 0 → X G M Q 181 [(0, .ref v0), (1, .int v1), (3, .int v3), (4, .int v4), (5, .int v5)] [] h5))))) ∧ (¬ (lg_cmp (kL h (rf h v0 29) (Int32.toNatClampNeg v5)) (kL h (rf h v0 29) (Int32.toNatClampNeg v3))) = 0 → (kT h v0 = 12 ∧ kR h v0 31 = some (rf h v0 31) ∧ (kT h (rf h v0 31) = 50 ∧ vp_in v5 (kN h (rf h v0 31)) ∧ X G M Q 136 [(0, .ref v0), (1, .int v1), (3, .int v3), (4, .int v4), (5, .int (kI h (rf h v0 31) (Int32.toNatClampNeg v5)))] [] h)))))))))) : X G M Q 136 [(0, .ref v0), (1, .int v1), (3, .int v3), (4, .int v4), (5, .int v5)] [] h := by
  refine x_iload hM d_Mo_partAll_136 4 rfl ?_
  refine x_iconst (v := (-1)) hM d_Mo_partAll_138 (by decide) ?_
  refine x_icmp_eq (tgt := 181) hM d_Mo_partAll_139 (by decide) (fun q23 => ?_) (fun q23 => ?_)
  · replace F := F.1 q23
    exact F
  · replace F := F.2 q23
    refine x_aload_n hM d_Mo_partAll_142 rfl 0 rfl ?_
    obtain ⟨c21, F⟩ := F
    obtain ⟨c22, F⟩ := F
    refine x_getr hG hM ck_Mo 29 (Nat.le_of_ble_eq_true rfl) rfl rfl w_926 rfl d_Mo_partAll_143 c21 c22 ?_
    refine x_iload hM d_Mo_partAll_146 4 rfl ?_
    obtain ⟨c19, F⟩ := F
    obtain ⟨c20, F⟩ := F
    refine x_laload hG hM d_Mo_partAll_148 c19 c20 ?_
    refine x_aload_n hM d_Mo_partAll_149 rfl 0 rfl ?_
    obtain ⟨c17, F⟩ := F
    obtain ⟨c18, F⟩ := F
    refine x_getr hG hM ck_Mo 29 (Nat.le_of_ble_eq_true rfl) rfl rfl w_926 rfl d_Mo_partAll_150 c17 c18 ?_
    refine x_iload_n hM d_Mo_partAll_153 rfl 2 rfl ?_
    obtain ⟨c15, F⟩ := F
    obtain ⟨c16, F⟩ := F
    refine x_laload hG hM d_Mo_partAll_154 c15 c16 ?_
    refine x_lcmp hM d_Mo_partAll_155 ?_
    refine x_if_ne (tgt := 169) hM d_Mo_partAll_156 (by decide) (fun q14 => ?_) (fun q14 => ?_)
    · replace F := F.2 q14
      refine x_aload_n hM d_Mo_partAll_169 rfl 0 rfl ?_
      obtain ⟨c3, F⟩ := F
      obtain ⟨c4, F⟩ := F
      refine x_getr hG hM ck_Mo 31 (Nat.le_of_ble_eq_true rfl) rfl rfl w_928 rfl d_Mo_partAll_170 c3 c4 ?_
      refine x_iload hM d_Mo_partAll_173 4 rfl ?_
      obtain ⟨c1, F⟩ := F
      obtain ⟨c2, F⟩ := F
      refine x_iaload hG hM d_Mo_partAll_175 c1 c2 ?_
      refine x_istore (lv2 := [(5, .int (kI h (rf h v0 31) (Int32.toNatClampNeg v5))), (0, .ref v0), (1, .int v1), (3, .int v3), (4, .int v4)]) hM d_Mo_partAll_176 (Nat.le_of_ble_eq_true rfl) rfl ?_
      refine x_goto (tgt := 136) hM d_Mo_partAll_178 (by decide) ?_
      refine x_sub [1, 2, 3, 4, 0] rfl ?_
      exact F
    · replace F := F.1 q14
      refine x_aload_n hM d_Mo_partAll_159 rfl 0 rfl ?_
      refine x_iload_n hM d_Mo_partAll_160 rfl 2 rfl ?_
      refine x_iload hM d_Mo_partAll_161 4 rfl ?_
      obtain ⟨c13, F⟩ := F
      refine x_callV hG hM (r' := r_Mo_areAlike) (ci := 11) [.int v3, .int v5] rfl rfl (Nat.le_of_ble_eq_true rfl) yk_Mo_areAlike ⟨Nat.le_of_ble_eq_true rfl, Nat.le_of_ble_eq_true rfl⟩ w_1153 w_1155 ws_Mo_areAlike rfl rfl (Nat.le_of_ble_eq_true rfl) d_Mo_partAll_163 c13 (sem_mono F ?_)
      intro u6 h5 F
      obtain ⟨x7, rfl, F⟩ := F
      refine x_if_ne (tgt := 181) hM d_Mo_partAll_166 (by decide) (fun q12 => ?_) (fun q12 => ?_)
      · replace F := F.2 q12
        exact F
      · replace F := F.1 q12
        refine x_aload_n hM d_Mo_partAll_169 rfl 0 rfl ?_
        obtain ⟨c10, F⟩ := F
        obtain ⟨c11, F⟩ := F
        refine x_getr hG hM ck_Mo 31 (Nat.le_of_ble_eq_true rfl) rfl rfl w_928 rfl d_Mo_partAll_170 c10 c11 ?_
        refine x_iload hM d_Mo_partAll_173 4 rfl ?_
        obtain ⟨c8, F⟩ := F
        obtain ⟨c9, F⟩ := F
        refine x_iaload hG hM d_Mo_partAll_175 c8 c9 ?_
        refine x_istore (lv2 := [(5, .int (kI h5 (rf h5 v0 31) (Int32.toNatClampNeg v5))), (0, .ref v0), (1, .int v1), (3, .int v3), (4, .int v4)]) hM d_Mo_partAll_176 (Nat.le_of_ble_eq_true rfl) rfl ?_
        refine x_goto (tgt := 136) hM d_Mo_partAll_178 (by decide) ?_
        refine x_sub [1, 2, 3, 4, 0] rfl ?_
        exact F
set_option maxRecDepth 100000 in
set_option maxHeartbeats 4000000 in
theorem S_Mo_partAll_252 {G : Gc} {M : Mc} {Q : State → Prop} {K : Option Value → Hp → Prop} (hG : gok G) (hM : mok G M r_Mo_partAll Q K) (v0 : Nat) (v1 : Int32) (v3 : Int32) (h : Hp) (F : kT h v0 = 12 ∧ (((kI h v0 13) ≤ v3 → (kT h v0 = 12 ∧ (∀ z1 : Int32, z1 = (if (kI h v0 32) = v1 then 0 else 1) → (kT h v0 = 12 ∧ X G M Q 62 [(0, .ref v0), (1, .int (kI h v0 32)), (2, .int z1)] [] h)))) ∧ (¬ (kI h v0 13) ≤ v3 → (kT h v0 = 12 ∧ kR h v0 27 = some (rf h v0 27) ∧ (kT h v0 = 12 ∧ kR h v0 28 = some (rf h v0 28) ∧ (kT h (rf h v0 28) = 50 ∧ vp_in v3 (kN h (rf h v0 28)) ∧ (kT h (rf h v0 27) = 50 ∧ vp_in v3 (kN h (rf h v0 27)) ∧ (∀ h5 : Hp, h5 = wI h (rf h v0 27) (Int32.toNatClampNeg v3) (kI h (rf h v0 28) (Int32.toNatClampNeg v3)) → X G M Q 252 [(0, .ref v0), (1, .int v1), (3, .int (v3 + 1))] [] h5)))))))) : X G M Q 252 [(0, .ref v0), (1, .int v1), (3, .int v3)] [] h := by
  refine x_iload_n hM d_Mo_partAll_252 rfl 2 rfl ?_
  refine x_aload_n hM d_Mo_partAll_253 rfl 0 rfl ?_
  obtain ⟨c15, F⟩ := F
  refine x_geti hG hM ck_Mo 13 (Nat.le_of_ble_eq_true rfl) rfl rfl w_910 rfl d_Mo_partAll_254 c15 ?_
  refine x_icmp_ge (tgt := 278) hM d_Mo_partAll_257 (by decide) (fun q14 => ?_) (fun q14 => ?_)
  · replace F := F.1 q14
    refine x_aload_n hM d_Mo_partAll_278 rfl 0 rfl ?_
    obtain ⟨c4, F⟩ := F
    refine x_geti hG hM ck_Mo 32 (Nat.le_of_ble_eq_true rfl) rfl rfl w_929 rfl d_Mo_partAll_279 c4 ?_
    refine x_iload_n hM d_Mo_partAll_282 rfl 1 rfl ?_
    have JJ : ∀ (z1 : Int32) (ez1 : z1 = (if (kI h v0 32) = v1 then 0 else 1)), X G M Q 291 [(0, .ref v0)] [.int z1] h := by
      intro z1 ez1
      replace F := F _ ez1
      refine x_istore_n (lv2 := [(2, .int z1), (0, .ref v0)]) hM d_Mo_partAll_291 rfl (Nat.le_of_ble_eq_true rfl) rfl ?_
      refine x_aload_n hM d_Mo_partAll_292 rfl 1 rfl ?_
      obtain ⟨c2, F⟩ := F
      refine x_geti hG hM ck_Mo 32 (Nat.le_of_ble_eq_true rfl) rfl rfl w_929 rfl d_Mo_partAll_293 c2 ?_
      refine x_istore_n (lv2 := [(1, .int (kI h v0 32)), (2, .int z1), (0, .ref v0)]) hM d_Mo_partAll_296 rfl (Nat.le_of_ble_eq_true rfl) rfl ?_
      refine x_goto (tgt := 62) hM d_Mo_partAll_297 (by decide) ?_
      refine x_sub [2, 0, 1] rfl ?_
      exact F
    refine x_icmp_eq (tgt := 290) hM d_Mo_partAll_283 (by decide) (fun q3 => ?_) (fun q3 => ?_)
    · refine x_iconst (v := 0) hM d_Mo_partAll_290 (by decide) ?_
      refine x_sub [0] rfl ?_
      exact JJ _ (Eq.symm (if_pos q3))
    · refine x_iconst (v := 1) hM d_Mo_partAll_286 (by decide) ?_
      refine x_goto (tgt := 291) hM d_Mo_partAll_287 (by decide) ?_
      refine x_sub [0] rfl ?_
      exact JJ _ (Eq.symm (if_neg q3))
  · replace F := F.2 q14
    refine x_aload_n hM d_Mo_partAll_260 rfl 0 rfl ?_
    obtain ⟨c12, F⟩ := F
    obtain ⟨c13, F⟩ := F
    refine x_getr hG hM ck_Mo 27 (Nat.le_of_ble_eq_true rfl) rfl rfl w_924 rfl d_Mo_partAll_261 c12 c13 ?_
    refine x_iload_n hM d_Mo_partAll_264 rfl 2 rfl ?_
    refine x_aload_n hM d_Mo_partAll_265 rfl 0 rfl ?_
    obtain ⟨c10, F⟩ := F
    obtain ⟨c11, F⟩ := F
    refine x_getr hG hM ck_Mo 28 (Nat.le_of_ble_eq_true rfl) rfl rfl w_925 rfl d_Mo_partAll_266 c10 c11 ?_
    refine x_iload_n hM d_Mo_partAll_269 rfl 2 rfl ?_
    obtain ⟨c8, F⟩ := F
    obtain ⟨c9, F⟩ := F
    refine x_iaload hG hM d_Mo_partAll_270 c8 c9 ?_
    obtain ⟨c6, F⟩ := F
    obtain ⟨c7, F⟩ := F
    replace F := F _ rfl
    refine x_iastore hG hM d_Mo_partAll_271 c6 c7 ?_
    refine x_iinc (v := (v3 + 1)) (lv2 := [(3, .int (v3 + 1)), (0, .ref v0), (1, .int v1)]) hM d_Mo_partAll_272 (j := 2) rfl rfl (Nat.le_of_ble_eq_true rfl) rfl ?_
    refine x_goto (tgt := 252) hM d_Mo_partAll_275 (by decide) ?_
    refine x_sub [1, 2, 0] rfl ?_
    exact F
set_option maxRecDepth 100000 in
set_option maxHeartbeats 4000000 in
theorem S_Mo_partAll_181 {G : Gc} {M : Mc} {Q : State → Prop} {K : Option Value → Hp → Prop} (hG : gok G) (hM : mok G M r_Mo_partAll Q K) (v0 : Nat) (v1 : Int32) (v3 : Int32) (v4 : Int32) (v5 : Int32) (h : Hp) (F : (v5 = (-1) → (kT h v0 = 12 ∧ kR h v0 28 = some (rf h v0 28) ∧ (kT h v0 = 12 ∧ (kT h (rf h v0 28) = 50 ∧ vp_in v3 (kN h (rf h v0 28)) ∧ (∀ h10 : Hp, h10 = wI h (rf h v0 28) (Int32.toNatClampNeg v3) (kI h v0 32) → (kT h10 v0 = 12 ∧ (kT h10 v0 = 12 ∧ (∀ h11 : Hp, h11 = wI h10 v0 32 ((kI h10 v0 32) + 1) → (kT h11 v0 = 12 ∧ kR h11 v0 31 = some (rf h11 v0 31) ∧ (kT h11 v0 = 12 ∧ kR h11 v0 30 = some (rf h11 v0 30) ∧ (kT h11 (rf h11 v0 30) = 50 ∧ vp_in v4 (kN h11 (rf h11 v0 30)) ∧ (kT h11 (rf h11 v0 31) = 50 ∧ vp_in v3 (kN h11 (rf h11 v0 31)) ∧ (∀ h12 : Hp, h12 = wI h11 (rf h11 v0 31) (Int32.toNatClampNeg v3) (kI h11 (rf h11 v0 30) (Int32.toNatClampNeg v4)) → (kT h12 v0 = 12 ∧ kR h12 v0 30 = some (rf h12 v0 30) ∧ (kT h12 (rf h12 v0 30) = 50 ∧ vp_in v4 (kN h12 (rf h12 v0 30)) ∧ (∀ h13 : Hp, h13 = wI h12 (rf h12 v0 30) (Int32.toNatClampNeg v4) v3 → X G M Q 95 [(0, .ref v0), (1, .int v1), (3, .int (v3 + 1))] [] h13)))))))))))))))) ∧ (¬ v5 = (-1) → (kT h v0 = 12 ∧ kR h v0 28 = some (rf h v0 28) ∧ (kT h v0 = 12 ∧ kR h v0 28 = some (rf h v0 28) ∧ (kT h (rf h v0 28) = 50 ∧ vp_in v5 (kN h (rf h v0 28)) ∧ (kT h (rf h v0 28) = 50 ∧ vp_in v3 (kN h (rf h v0 28)) ∧ (∀ h1 : Hp, h1 = wI h (rf h v0 28) (Int32.toNatClampNeg v3) (kI h (rf h v0 28) (Int32.toNatClampNeg v5)) → X G M Q 95 [(0, .ref v0), (1, .int v1), (3, .int (v3 + 1))] [] h1))))))) : X G M Q 181 [(0, .ref v0), (1, .int v1), (3, .int v3), (4, .int v4), (5, .int v5)] [] h := by
  refine x_iload hM d_Mo_partAll_181 4 rfl ?_
  refine x_iconst (v := (-1)) hM d_Mo_partAll_183 (by decide) ?_
  refine x_icmp_ne (tgt := 231) hM d_Mo_partAll_184 (by decide) (fun q33 => ?_) (fun q33 => ?_)
  · replace F := F.2 q33
    refine x_aload_n hM d_Mo_partAll_231 rfl 0 rfl ?_
    obtain ⟨c8, F⟩ := F
    obtain ⟨c9, F⟩ := F
    refine x_getr hG hM ck_Mo 28 (Nat.le_of_ble_eq_true rfl) rfl rfl w_925 rfl d_Mo_partAll_232 c8 c9 ?_
    refine x_iload_n hM d_Mo_partAll_235 rfl 2 rfl ?_
    refine x_aload_n hM d_Mo_partAll_236 rfl 0 rfl ?_
    obtain ⟨c6, F⟩ := F
    obtain ⟨c7, F⟩ := F
    refine x_getr hG hM ck_Mo 28 (Nat.le_of_ble_eq_true rfl) rfl rfl w_925 rfl d_Mo_partAll_237 c6 c7 ?_
    refine x_iload hM d_Mo_partAll_240 4 rfl ?_
    obtain ⟨c4, F⟩ := F
    obtain ⟨c5, F⟩ := F
    refine x_iaload hG hM d_Mo_partAll_242 c4 c5 ?_
    obtain ⟨c2, F⟩ := F
    obtain ⟨c3, F⟩ := F
    replace F := F _ rfl
    refine x_iastore hG hM d_Mo_partAll_243 c2 c3 ?_
    refine x_iinc (v := (v3 + 1)) (lv2 := [(3, .int (v3 + 1)), (0, .ref v0), (1, .int v1), (4, .int v4), (5, .int v5)]) hM d_Mo_partAll_244 (j := 2) rfl rfl (Nat.le_of_ble_eq_true rfl) rfl ?_
    refine x_goto (tgt := 95) hM d_Mo_partAll_247 (by decide) ?_
    refine x_sub [1, 2, 0] rfl ?_
    exact F
  · replace F := F.1 q33
    refine x_aload_n hM d_Mo_partAll_187 rfl 0 rfl ?_
    obtain ⟨c31, F⟩ := F
    obtain ⟨c32, F⟩ := F
    refine x_getr hG hM ck_Mo 28 (Nat.le_of_ble_eq_true rfl) rfl rfl w_925 rfl d_Mo_partAll_188 c31 c32 ?_
    refine x_iload_n hM d_Mo_partAll_191 rfl 2 rfl ?_
    refine x_aload_n hM d_Mo_partAll_192 rfl 0 rfl ?_
    obtain ⟨c30, F⟩ := F
    refine x_geti hG hM ck_Mo 32 (Nat.le_of_ble_eq_true rfl) rfl rfl w_929 rfl d_Mo_partAll_193 c30 ?_
    obtain ⟨c28, F⟩ := F
    obtain ⟨c29, F⟩ := F
    replace F := F _ rfl
    refine x_iastore hG hM d_Mo_partAll_196 c28 c29 ?_
    refine x_aload_n hM d_Mo_partAll_197 rfl 0 rfl ?_
    refine x_dup hM d_Mo_partAll_198 rfl ?_
    obtain ⟨c27, F⟩ := F
    refine x_geti hG hM ck_Mo 32 (Nat.le_of_ble_eq_true rfl) rfl rfl w_929 rfl d_Mo_partAll_199 c27 ?_
    refine x_iconst (v := 1) hM d_Mo_partAll_202 (by decide) ?_
    refine x_iadd hM d_Mo_partAll_203 ?_
    obtain ⟨c26, F⟩ := F
    replace F := F _ rfl
    refine x_puti hG hM ck_Mo 32 (Nat.le_of_ble_eq_true rfl) rfl rfl w_929 rfl d_Mo_partAll_204 (Or.inl rfl) c26 ?_
    refine x_aload_n hM d_Mo_partAll_207 rfl 0 rfl ?_
    obtain ⟨c24, F⟩ := F
    obtain ⟨c25, F⟩ := F
    refine x_getr hG hM ck_Mo 31 (Nat.le_of_ble_eq_true rfl) rfl rfl w_928 rfl d_Mo_partAll_208 c24 c25 ?_
    refine x_iload_n hM d_Mo_partAll_211 rfl 2 rfl ?_
    refine x_aload_n hM d_Mo_partAll_212 rfl 0 rfl ?_
    obtain ⟨c22, F⟩ := F
    obtain ⟨c23, F⟩ := F
    refine x_getr hG hM ck_Mo 30 (Nat.le_of_ble_eq_true rfl) rfl rfl w_927 rfl d_Mo_partAll_213 c22 c23 ?_
    refine x_iload hM d_Mo_partAll_216 3 rfl ?_
    obtain ⟨c20, F⟩ := F
    obtain ⟨c21, F⟩ := F
    refine x_iaload hG hM d_Mo_partAll_218 c20 c21 ?_
    obtain ⟨c18, F⟩ := F
    obtain ⟨c19, F⟩ := F
    replace F := F _ rfl
    refine x_iastore hG hM d_Mo_partAll_219 c18 c19 ?_
    refine x_aload_n hM d_Mo_partAll_220 rfl 0 rfl ?_
    obtain ⟨c16, F⟩ := F
    obtain ⟨c17, F⟩ := F
    refine x_getr hG hM ck_Mo 30 (Nat.le_of_ble_eq_true rfl) rfl rfl w_927 rfl d_Mo_partAll_221 c16 c17 ?_
    refine x_iload hM d_Mo_partAll_224 3 rfl ?_
    refine x_iload_n hM d_Mo_partAll_226 rfl 2 rfl ?_
    obtain ⟨c14, F⟩ := F
    obtain ⟨c15, F⟩ := F
    replace F := F _ rfl
    refine x_iastore hG hM d_Mo_partAll_227 c14 c15 ?_
    refine x_goto (tgt := 244) hM d_Mo_partAll_228 (by decide) ?_
    refine x_iinc (v := (v3 + 1)) (lv2 := [(3, .int (v3 + 1)), (0, .ref v0), (1, .int v1), (4, .int v4), (5, .int v5)]) hM d_Mo_partAll_244 (j := 2) rfl rfl (Nat.le_of_ble_eq_true rfl) rfl ?_
    refine x_goto (tgt := 95) hM d_Mo_partAll_247 (by decide) ?_
    refine x_sub [1, 2, 0] rfl ?_
    exact F
set_option maxRecDepth 100000 in
set_option maxHeartbeats 4000000 in
theorem S_Mo_signOf_0 {G : Gc} {M : Mc} {Q : State → Prop} {K : Option Value → Hp → Prop} (hG : gok G) (hM : mok G M r_Mo_signOf Q K) (v0 : Nat) (v1 : Int32) (h : Hp) (F : kT h v0 = 12 ∧ kR h v0 27 = some (rf h v0 27) ∧ (kT h (rf h v0 27) = 50 ∧ vp_in v1 (kN h (rf h v0 27)) ∧ X G M Q 13 [(0, .ref v0), (1, .int v1), (2, .long ((Int32.toInt64 (kI h (rf h v0 27) (Int32.toNatClampNeg v1))) + 1)), (4, .int 0)] [] h)) : X G M Q 0 [(0, .ref v0), (1, .int v1)] [] h := by
  refine x_aload_n hM d_Mo_signOf_0 rfl 0 rfl ?_
  obtain ⟨c3, F⟩ := F
  obtain ⟨c4, F⟩ := F
  refine x_getr hG hM ck_Mo 27 (Nat.le_of_ble_eq_true rfl) rfl rfl w_924 rfl d_Mo_signOf_1 c3 c4 ?_
  refine x_iload_n hM d_Mo_signOf_4 rfl 1 rfl ?_
  obtain ⟨c1, F⟩ := F
  obtain ⟨c2, F⟩ := F
  refine x_iaload hG hM d_Mo_signOf_5 c1 c2 ?_
  refine x_i2l hM d_Mo_signOf_6 ?_
  refine x_lconst (v := 1) hM d_Mo_signOf_7 (by decide) ?_
  refine x_ladd hM d_Mo_signOf_8 ?_
  refine x_lstore_n (lv2 := [(2, .long ((Int32.toInt64 (kI h (rf h v0 27) (Int32.toNatClampNeg v1))) + 1)), (0, .ref v0), (1, .int v1)]) hM d_Mo_signOf_9 rfl (Nat.le_of_ble_eq_true rfl) rfl ?_
  refine x_iconst (v := 0) hM d_Mo_signOf_10 (by decide) ?_
  refine x_istore (lv2 := [(4, .int 0), (2, .long ((Int32.toInt64 (kI h (rf h v0 27) (Int32.toNatClampNeg v1))) + 1)), (0, .ref v0), (1, .int v1)]) hM d_Mo_signOf_11 (Nat.le_of_ble_eq_true rfl) rfl ?_
  refine x_sub [2, 3, 1, 0] rfl ?_
  exact F
set_option maxRecDepth 100000 in
set_option maxHeartbeats 4000000 in
theorem S_Mo_signOf_13 {G : Gc} {M : Mc} {Q : State → Prop} {K : Option Value → Hp → Prop} (hG : gok G) (hM : mok G M r_Mo_signOf Q K) (v0 : Nat) (v1 : Int32) (v2 : Int64) (v4 : Int32) (h : Hp) (F : kT h v0 = 12 ∧ (((kI h v0 3) ≤ v4 → K (some (.long v2)) h) ∧ (¬ (kI h v0 3) ≤ v4 → X G M Q 28 [(0, .ref v0), (1, .int v1), (2, .long v2), (4, .int v4), (5, .long 1), (7, .int 0)] [] h))) : X G M Q 13 [(0, .ref v0), (1, .int v1), (2, .long v2), (4, .int v4)] [] h := by
  refine x_iload hM d_Mo_signOf_13 3 rfl ?_
  refine x_aload_n hM d_Mo_signOf_15 rfl 0 rfl ?_
  obtain ⟨c2, F⟩ := F
  refine x_geti hG hM ck_Mo 3 (Nat.le_of_ble_eq_true rfl) rfl rfl w_900 rfl d_Mo_signOf_16 c2 ?_
  refine x_icmp_ge (tgt := 196) hM d_Mo_signOf_19 (by decide) (fun q1 => ?_) (fun q1 => ?_)
  · replace F := F.1 q1
    refine x_lload_n hM d_Mo_signOf_196 rfl 2 rfl ?_
    exact x_lreturn hM d_Mo_signOf_197 rfl F
  · replace F := F.2 q1
    refine x_lconst (v := 1) hM d_Mo_signOf_22 (by decide) ?_
    refine x_lstore (lv2 := [(5, .long 1), (0, .ref v0), (1, .int v1), (2, .long v2), (4, .int v4)]) hM d_Mo_signOf_23 (Nat.le_of_ble_eq_true rfl) rfl ?_
    refine x_iconst (v := 0) hM d_Mo_signOf_25 (by decide) ?_
    refine x_istore (lv2 := [(7, .int 0), (5, .long 1), (0, .ref v0), (1, .int v1), (2, .long v2), (4, .int v4)]) hM d_Mo_signOf_26 (Nat.le_of_ble_eq_true rfl) rfl ?_
    refine x_sub [2, 3, 4, 5, 1, 0] rfl ?_
    exact F
set_option maxRecDepth 100000 in
set_option maxHeartbeats 4000000 in
theorem S_Mo_signOf_28 {G : Gc} {M : Mc} {Q : State → Prop} {K : Option Value → Hp → Prop} (hG : gok G) (hM : mok G M r_Mo_signOf Q K) (v0 : Nat) (v1 : Int32) (v2 : Int64) (v4 : Int32) (v5 : Int64) (v7 : Int32) (h : Hp) (F : kT h v0 = 12 ∧ kR h v0 4 = some (rf h v0 4) ∧ (kT h (rf h v0 4) = 50 ∧ vp_in v4 (kN h (rf h v0 4)) ∧ (((kI h (rf h v0 4) (Int32.toNatClampNeg v4)) ≤ v7 → X G M Q 13 [(0, .ref v0), (1, .int v1), (2, .long ((((v2 * 31) + v5) * 1000003) ^^^ ((Int64.toUInt64 (((v2 * 31) + v5) * 1000003) >>> ((Int32.toInt64 29).toUInt64 &&& Int64.toUInt64 63)).toInt64))), (4, .int (v4 + 1))] [] h) ∧ (¬ (kI h (rf h v0 4) (Int32.toNatClampNeg v4)) ≤ v7 → (kT h v0 = 12 ∧ kR h v0 14 = some (rf h v0 14) ∧ (kT h (rf h v0 14) = 50 ∧ vp_in (((36 * v1) + (3 * v4)) + v7) (kN h (rf h v0 14)) ∧ X G M Q 65 [(0, .ref v0), (1, .int v1), (2, .long v2), (4, .int v4), (5, .long v5), (7, .int v7), (8, .int (kI h (rf h v0 14) (Int32.toNatClampNeg (((36 * v1) + (3 * v4)) + v7)))), (9, .int 0), (10, .int 0)] [] h)))))) : X G M Q 28 [(0, .ref v0), (1, .int v1), (2, .long v2), (4, .int v4), (5, .long v5), (7, .int v7)] [] h := by
  refine x_iload hM d_Mo_signOf_28 5 rfl ?_
  refine x_aload_n hM d_Mo_signOf_30 rfl 0 rfl ?_
  obtain ⟨c8, F⟩ := F
  obtain ⟨c9, F⟩ := F
  refine x_getr hG hM ck_Mo 4 (Nat.le_of_ble_eq_true rfl) rfl rfl w_901 rfl d_Mo_signOf_31 c8 c9 ?_
  refine x_iload hM d_Mo_signOf_34 3 rfl ?_
  obtain ⟨c6, F⟩ := F
  obtain ⟨c7, F⟩ := F
  refine x_iaload hG hM d_Mo_signOf_36 c6 c7 ?_
  refine x_icmp_ge (tgt := 170) hM d_Mo_signOf_37 (by decide) (fun q5 => ?_) (fun q5 => ?_)
  · replace F := F.1 q5
    refine x_lload_n hM d_Mo_signOf_170 rfl 2 rfl ?_
    refine x_ldc2 hG hM rfl w_1150 d_Mo_signOf_171 ?_
    refine x_lmul hM d_Mo_signOf_174 ?_
    refine x_lload hM d_Mo_signOf_175 4 rfl ?_
    refine x_ladd hM d_Mo_signOf_177 ?_
    refine x_ldc2 hG hM rfl w_1151 d_Mo_signOf_178 ?_
    refine x_lmul hM d_Mo_signOf_181 ?_
    refine x_lstore_n (lv2 := [(2, .long (((v2 * 31) + v5) * 1000003)), (0, .ref v0), (1, .int v1), (4, .int v4), (5, .long v5), (7, .int v7)]) hM d_Mo_signOf_182 rfl (Nat.le_of_ble_eq_true rfl) rfl ?_
    refine x_lload_n hM d_Mo_signOf_183 rfl 0 rfl ?_
    refine x_lload_n hM d_Mo_signOf_184 rfl 0 rfl ?_
    refine x_bipush (v := 29) hM d_Mo_signOf_185 (by decide) ?_
    refine x_lushr hM d_Mo_signOf_187 ?_
    refine x_lxor hM d_Mo_signOf_188 ?_
    refine x_lstore_n (lv2 := [(2, .long ((((v2 * 31) + v5) * 1000003) ^^^ ((Int64.toUInt64 (((v2 * 31) + v5) * 1000003) >>> ((Int32.toInt64 29).toUInt64 &&& Int64.toUInt64 63)).toInt64))), (0, .ref v0), (1, .int v1), (4, .int v4), (5, .long v5), (7, .int v7)]) hM d_Mo_signOf_189 rfl (Nat.le_of_ble_eq_true rfl) rfl ?_
    refine x_iinc (v := (v4 + 1)) (lv2 := [(4, .int (v4 + 1)), (2, .long ((((v2 * 31) + v5) * 1000003) ^^^ ((Int64.toUInt64 (((v2 * 31) + v5) * 1000003) >>> ((Int32.toInt64 29).toUInt64 &&& Int64.toUInt64 63)).toInt64))), (0, .ref v0), (1, .int v1), (5, .long v5), (7, .int v7)]) hM d_Mo_signOf_190 (j := 3) rfl rfl (Nat.le_of_ble_eq_true rfl) rfl ?_
    refine x_goto (tgt := 13) hM d_Mo_signOf_193 (by decide) ?_
    refine x_sub [2, 3, 1, 0] rfl ?_
    exact F
  · replace F := F.2 q5
    refine x_aload_n hM d_Mo_signOf_40 rfl 0 rfl ?_
    obtain ⟨c3, F⟩ := F
    obtain ⟨c4, F⟩ := F
    refine x_getr hG hM ck_Mo 14 (Nat.le_of_ble_eq_true rfl) rfl rfl w_911 rfl d_Mo_signOf_41 c3 c4 ?_
    refine x_bipush (v := 36) hM d_Mo_signOf_44 (by decide) ?_
    refine x_iload_n hM d_Mo_signOf_46 rfl 1 rfl ?_
    refine x_imul hM d_Mo_signOf_47 ?_
    refine x_iconst (v := 3) hM d_Mo_signOf_48 (by decide) ?_
    refine x_iload hM d_Mo_signOf_49 3 rfl ?_
    refine x_imul hM d_Mo_signOf_51 ?_
    refine x_iadd hM d_Mo_signOf_52 ?_
    refine x_iload hM d_Mo_signOf_53 5 rfl ?_
    refine x_iadd hM d_Mo_signOf_55 ?_
    obtain ⟨c1, F⟩ := F
    obtain ⟨c2, F⟩ := F
    refine x_iaload hG hM d_Mo_signOf_56 c1 c2 ?_
    refine x_istore (lv2 := [(8, .int (kI h (rf h v0 14) (Int32.toNatClampNeg (((36 * v1) + (3 * v4)) + v7)))), (0, .ref v0), (1, .int v1), (2, .long v2), (4, .int v4), (5, .long v5), (7, .int v7)]) hM d_Mo_signOf_57 (Nat.le_of_ble_eq_true rfl) rfl ?_
    refine x_iconst (v := 0) hM d_Mo_signOf_59 (by decide) ?_
    refine x_istore (lv2 := [(9, .int 0), (8, .int (kI h (rf h v0 14) (Int32.toNatClampNeg (((36 * v1) + (3 * v4)) + v7)))), (0, .ref v0), (1, .int v1), (2, .long v2), (4, .int v4), (5, .long v5), (7, .int v7)]) hM d_Mo_signOf_60 (Nat.le_of_ble_eq_true rfl) rfl ?_
    refine x_iconst (v := 0) hM d_Mo_signOf_62 (by decide) ?_
    refine x_istore (lv2 := [(10, .int 0), (9, .int 0), (8, .int (kI h (rf h v0 14) (Int32.toNatClampNeg (((36 * v1) + (3 * v4)) + v7)))), (0, .ref v0), (1, .int v1), (2, .long v2), (4, .int v4), (5, .long v5), (7, .int v7)]) hM d_Mo_signOf_63 (Nat.le_of_ble_eq_true rfl) rfl ?_
    refine x_sub [3, 4, 5, 6, 7, 8, 2, 1, 0] rfl ?_
    exact F
set_option maxRecDepth 100000 in
set_option maxHeartbeats 4000000 in
theorem S_Mo_signOf_65 {G : Gc} {M : Mc} {Q : State → Prop} {K : Option Value → Hp → Prop} (hG : gok G) (hM : mok G M r_Mo_signOf Q K) (v0 : Nat) (v1 : Int32) (v2 : Int64) (v4 : Int32) (v5 : Int64) (v7 : Int32) (v8 : Int32) (v9 : Int32) (v10 : Int32) (h : Hp) (F : (v7 ≤ v10 → X G M Q 128 [(0, .ref v0), (1, .int v1), (2, .long v2), (4, .int v4), (5, .long v5), (7, .int v7), (8, .int v8), (9, .int v9)] [] h) ∧ (¬ v7 ≤ v10 → ((v8 = (-1) → X G M Q 128 [(0, .ref v0), (1, .int v1), (2, .long v2), (4, .int v4), (5, .long v5), (7, .int v7), (8, .int v8), (9, .int v9)] [] h) ∧ (¬ v8 = (-1) → ((v9 = 0 → (kT h v0 = 12 ∧ kR h v0 27 = some (rf h v0 27) ∧ kT h v0 = 12 ∧ kR h v0 14 = some (rf h v0 14) ∧ kT h (rf h v0 14) = 50 ∧ vp_in (((36 * v1) + (3 * v4)) + v10) (kN h (rf h v0 14)) ∧ kT h (rf h v0 27) = 50 ∧ vp_in (kI h (rf h v0 14) (Int32.toNatClampNeg (((36 * v1) + (3 * v4)) + v10))) (kN h (rf h v0 27)) ∧ kT h v0 = 12 ∧ kR h v0 27 = some (rf h v0 27) ∧ kT h (rf h v0 27) = 50 ∧ vp_in v8 (kN h (rf h v0 27)))) ∧ (∀ z1 : Int32, z1 = (if v9 = 0 then (if (kI h (rf h v0 27) (Int32.toNatClampNeg (kI h (rf h v0 14) (Int32.toNatClampNeg (((36 * v1) + (3 * v4)) + v10))))) = (kI h (rf h v0 27) (Int32.toNatClampNeg v8)) then 1 else 0) else 1) → X G M Q 65 [(0, .ref v0), (1, .int v1), (2, .long v2), (4, .int v4), (5, .long v5), (7, .int v7), (8, .int v8), (9, .int z1), (10, .int (v10 + 1))] [] h)))))) : X G M Q 65 [(0, .ref v0), (1, .int v1), (2, .long v2), (4, .int v4), (5, .long v5), (7, .int v7), (8, .int v8), (9, .int v9), (10, .int v10)] [] h := by
  refine x_iload hM d_Mo_signOf_65 8 rfl ?_
  refine x_iload hM d_Mo_signOf_67 5 rfl ?_
  refine x_icmp_ge (tgt := 128) hM d_Mo_signOf_69 (by decide) (fun q17 => ?_) (fun q17 => ?_)
  · replace F := F.1 q17
    refine x_sub [0, 1, 2, 3, 4, 5, 6, 7] rfl ?_
    exact F
  · replace F := F.2 q17
    refine x_iload hM d_Mo_signOf_72 6 rfl ?_
    refine x_iconst (v := (-1)) hM d_Mo_signOf_74 (by decide) ?_
    refine x_icmp_eq (tgt := 128) hM d_Mo_signOf_75 (by decide) (fun q16 => ?_) (fun q16 => ?_)
    · replace F := F.1 q16
      refine x_sub [0, 1, 2, 3, 4, 5, 6, 7] rfl ?_
      exact F
    · replace F := F.2 q16
      refine x_iload hM d_Mo_signOf_78 7 rfl ?_
      obtain ⟨S, F⟩ := F
      have JJ : ∀ (z1 : Int32) (ez1 : z1 = (if v9 = 0 then (if (kI h (rf h v0 27) (Int32.toNatClampNeg (kI h (rf h v0 14) (Int32.toNatClampNeg (((36 * v1) + (3 * v4)) + v10))))) = (kI h (rf h v0 27) (Int32.toNatClampNeg v8)) then 1 else 0) else 1)), X G M Q 120 [(0, .ref v0), (1, .int v1), (2, .long v2), (4, .int v4), (5, .long v5), (7, .int v7), (8, .int v8), (10, .int v10)] [.int z1] h := by
        intro z1 ez1
        replace F := F _ ez1
        refine x_istore (lv2 := [(9, .int z1), (0, .ref v0), (1, .int v1), (2, .long v2), (4, .int v4), (5, .long v5), (7, .int v7), (8, .int v8), (10, .int v10)]) hM d_Mo_signOf_120 (Nat.le_of_ble_eq_true rfl) rfl ?_
        refine x_iinc (v := (v10 + 1)) (lv2 := [(10, .int (v10 + 1)), (9, .int z1), (0, .ref v0), (1, .int v1), (2, .long v2), (4, .int v4), (5, .long v5), (7, .int v7), (8, .int v8)]) hM d_Mo_signOf_122 (j := 8) rfl rfl (Nat.le_of_ble_eq_true rfl) rfl ?_
        refine x_goto (tgt := 65) hM d_Mo_signOf_125 (by decide) ?_
        refine x_sub [2, 3, 4, 5, 6, 7, 8, 1, 0] rfl ?_
        exact F
      refine x_if_ne (tgt := 115) hM d_Mo_signOf_80 (by decide) (fun q2 => ?_) (fun q2 => ?_)
      · refine x_iconst (v := 1) hM d_Mo_signOf_115 (by decide) ?_
        refine x_goto (tgt := 120) hM d_Mo_signOf_116 (by decide) ?_
        refine x_sub [0, 1, 2, 3, 4, 5, 6, 8] rfl ?_
        exact JJ _ (Eq.symm (if_neg q2))
      · replace S := S q2
        refine x_aload_n hM d_Mo_signOf_83 rfl 0 rfl ?_
        obtain ⟨c3, S⟩ := S
        obtain ⟨c4, S⟩ := S
        refine x_getr hG hM ck_Mo 27 (Nat.le_of_ble_eq_true rfl) rfl rfl w_924 rfl d_Mo_signOf_84 c3 c4 ?_
        refine x_aload_n hM d_Mo_signOf_87 rfl 0 rfl ?_
        obtain ⟨c5, S⟩ := S
        obtain ⟨c6, S⟩ := S
        refine x_getr hG hM ck_Mo 14 (Nat.le_of_ble_eq_true rfl) rfl rfl w_911 rfl d_Mo_signOf_88 c5 c6 ?_
        refine x_bipush (v := 36) hM d_Mo_signOf_91 (by decide) ?_
        refine x_iload_n hM d_Mo_signOf_93 rfl 1 rfl ?_
        refine x_imul hM d_Mo_signOf_94 ?_
        refine x_iconst (v := 3) hM d_Mo_signOf_95 (by decide) ?_
        refine x_iload hM d_Mo_signOf_96 3 rfl ?_
        refine x_imul hM d_Mo_signOf_98 ?_
        refine x_iadd hM d_Mo_signOf_99 ?_
        refine x_iload hM d_Mo_signOf_100 8 rfl ?_
        refine x_iadd hM d_Mo_signOf_102 ?_
        obtain ⟨c7, S⟩ := S
        obtain ⟨c8, S⟩ := S
        refine x_iaload hG hM d_Mo_signOf_103 c7 c8 ?_
        obtain ⟨c9, S⟩ := S
        obtain ⟨c10, S⟩ := S
        refine x_iaload hG hM d_Mo_signOf_104 c9 c10 ?_
        refine x_aload_n hM d_Mo_signOf_105 rfl 0 rfl ?_
        obtain ⟨c11, S⟩ := S
        obtain ⟨c12, S⟩ := S
        refine x_getr hG hM ck_Mo 27 (Nat.le_of_ble_eq_true rfl) rfl rfl w_924 rfl d_Mo_signOf_106 c11 c12 ?_
        refine x_iload hM d_Mo_signOf_109 6 rfl ?_
        obtain ⟨c13, S⟩ := S
        have c14 := S
        refine x_iaload hG hM d_Mo_signOf_111 c13 c14 ?_
        refine x_icmp_ne (tgt := 119) hM d_Mo_signOf_112 (by decide) (fun q15 => ?_) (fun q15 => ?_)
        · refine x_iconst (v := 0) hM d_Mo_signOf_119 (by decide) ?_
          refine x_sub [0, 1, 2, 3, 4, 5, 6, 8] rfl ?_
          exact JJ _ (Eq.symm (Eq.trans (if_pos q2) (if_neg q15)))
        · refine x_iconst (v := 1) hM d_Mo_signOf_115 (by decide) ?_
          refine x_goto (tgt := 120) hM d_Mo_signOf_116 (by decide) ?_
          refine x_sub [0, 1, 2, 3, 4, 5, 6, 8] rfl ?_
          exact JJ _ (Eq.symm (Eq.trans (if_pos q2) (if_pos q15)))
set_option maxRecDepth 100000 in
set_option maxHeartbeats 4000000 in
theorem S_Mo_signOf_128 {G : Gc} {M : Mc} {Q : State → Prop} {K : Option Value → Hp → Prop} (hG : gok G) (hM : mok G M r_Mo_signOf Q K) (v0 : Nat) (v1 : Int32) (v2 : Int64) (v4 : Int32) (v5 : Int64) (v7 : Int32) (v8 : Int32) (v9 : Int32) (h : Hp) (F : (¬ v8 = (-1) → (v9 = 0 → (kT h v0 = 12 ∧ kR h v0 27 = some (rf h v0 27) ∧ kT h (rf h v0 27) = 50 ∧ vp_in v8 (kN h (rf h v0 27))))) ∧ (∀ z1 : Int64, z1 = (if v8 = (-1) then 0 else (if v9 = 0 then (((Int32.toInt64 (kI h (rf h v0 27) (Int32.toNatClampNeg v8))) + 3) * 1099511628211) else 0)) → X G M Q 28 [(0, .ref v0), (1, .int v1), (2, .long v2), (4, .int v4), (5, .long (v5 + z1)), (7, .int (v7 + 1))] [] h)) : X G M Q 128 [(0, .ref v0), (1, .int v1), (2, .long v2), (4, .int v4), (5, .long v5), (7, .int v7), (8, .int v8), (9, .int v9)] [] h := by
  refine x_lload hM d_Mo_signOf_128 4 rfl ?_
  refine x_iload hM d_Mo_signOf_130 6 rfl ?_
  refine x_iconst (v := (-1)) hM d_Mo_signOf_132 (by decide) ?_
  obtain ⟨S, F⟩ := F
  have JJ : ∀ (z1 : Int64) (ez1 : z1 = (if v8 = (-1) then 0 else (if v9 = 0 then (((Int32.toInt64 (kI h (rf h v0 27) (Int32.toNatClampNeg v8))) + 3) * 1099511628211) else 0))), X G M Q 161 [(0, .ref v0), (1, .int v1), (2, .long v2), (4, .int v4), (7, .int v7)] [.long z1, .long v5] h := by
    intro z1 ez1
    replace F := F _ ez1
    refine x_ladd hM d_Mo_signOf_161 ?_
    refine x_lstore (lv2 := [(5, .long (v5 + z1)), (0, .ref v0), (1, .int v1), (2, .long v2), (4, .int v4), (7, .int v7)]) hM d_Mo_signOf_162 (Nat.le_of_ble_eq_true rfl) rfl ?_
    refine x_iinc (v := (v7 + 1)) (lv2 := [(7, .int (v7 + 1)), (5, .long (v5 + z1)), (0, .ref v0), (1, .int v1), (2, .long v2), (4, .int v4)]) hM d_Mo_signOf_164 (j := 5) rfl rfl (Nat.le_of_ble_eq_true rfl) rfl ?_
    refine x_goto (tgt := 28) hM d_Mo_signOf_167 (by decide) ?_
    refine x_sub [2, 3, 4, 5, 1, 0] rfl ?_
    exact F
  refine x_icmp_eq (tgt := 141) hM d_Mo_signOf_133 (by decide) (fun q2 => ?_) (fun q2 => ?_)
  · refine x_lconst (v := 0) hM d_Mo_signOf_141 (by decide) ?_
    refine x_goto (tgt := 161) hM d_Mo_signOf_142 (by decide) ?_
    refine x_sub [0, 1, 2, 3, 5] rfl ?_
    exact JJ _ (Eq.symm (if_pos q2))
  · replace S := S q2
    refine x_iload hM d_Mo_signOf_136 7 rfl ?_
    refine x_if_eq (tgt := 145) hM d_Mo_signOf_138 (by decide) (fun q3 => ?_) (fun q3 => ?_)
    · replace S := S q3
      refine x_aload_n hM d_Mo_signOf_145 rfl 0 rfl ?_
      obtain ⟨c4, S⟩ := S
      obtain ⟨c5, S⟩ := S
      refine x_getr hG hM ck_Mo 27 (Nat.le_of_ble_eq_true rfl) rfl rfl w_924 rfl d_Mo_signOf_146 c4 c5 ?_
      refine x_iload hM d_Mo_signOf_149 6 rfl ?_
      obtain ⟨c6, S⟩ := S
      have c7 := S
      refine x_iaload hG hM d_Mo_signOf_151 c6 c7 ?_
      refine x_i2l hM d_Mo_signOf_152 ?_
      refine x_ldc2 hG hM rfl w_1148 d_Mo_signOf_153 ?_
      refine x_ladd hM d_Mo_signOf_156 ?_
      refine x_ldc2 hG hM rfl w_1149 d_Mo_signOf_157 ?_
      refine x_lmul hM d_Mo_signOf_160 ?_
      refine x_sub [0, 1, 2, 3, 5] rfl ?_
      exact JJ _ (Eq.symm (Eq.trans (if_neg q2) (if_pos q3)))
    · refine x_lconst (v := 0) hM d_Mo_signOf_141 (by decide) ?_
      refine x_goto (tgt := 161) hM d_Mo_signOf_142 (by decide) ?_
      refine x_sub [0, 1, 2, 3, 5] rfl ?_
      exact JJ _ (Eq.symm (Eq.trans (if_neg q2) (if_neg q3)))
set_option maxRecDepth 100000 in
set_option maxHeartbeats 4000000 in
theorem S_Mo_areAlike_0 {G : Gc} {M : Mc} {Q : State → Prop} {K : Option Value → Hp → Prop} (hG : gok G) (hM : mok G M r_Mo_areAlike Q K) (v0 : Nat) (v1 : Int32) (v2 : Int32) (h : Hp) (F : kT h v0 = 12 ∧ kR h v0 27 = some (rf h v0 27) ∧ (kT h (rf h v0 27) = 50 ∧ vp_in v1 (kN h (rf h v0 27)) ∧ (kT h v0 = 12 ∧ kR h v0 27 = some (rf h v0 27) ∧ (kT h (rf h v0 27) = 50 ∧ vp_in v2 (kN h (rf h v0 27)) ∧ (∀ z1 : Int32, z1 = (if (kI h (rf h v0 27) (Int32.toNatClampNeg v1)) = (kI h (rf h v0 27) (Int32.toNatClampNeg v2)) then 1 else 0) → X G M Q 24 [(0, .ref v0), (1, .int v1), (2, .int v2), (3, .int z1), (4, .int 0)] [] h))))) : X G M Q 0 [(0, .ref v0), (1, .int v1), (2, .int v2)] [] h := by
  refine x_aload_n hM d_Mo_areAlike_0 rfl 0 rfl ?_
  obtain ⟨c9, F⟩ := F
  obtain ⟨c10, F⟩ := F
  refine x_getr hG hM ck_Mo 27 (Nat.le_of_ble_eq_true rfl) rfl rfl w_924 rfl d_Mo_areAlike_1 c9 c10 ?_
  refine x_iload_n hM d_Mo_areAlike_4 rfl 1 rfl ?_
  obtain ⟨c7, F⟩ := F
  obtain ⟨c8, F⟩ := F
  refine x_iaload hG hM d_Mo_areAlike_5 c7 c8 ?_
  refine x_aload_n hM d_Mo_areAlike_6 rfl 0 rfl ?_
  obtain ⟨c5, F⟩ := F
  obtain ⟨c6, F⟩ := F
  refine x_getr hG hM ck_Mo 27 (Nat.le_of_ble_eq_true rfl) rfl rfl w_924 rfl d_Mo_areAlike_7 c5 c6 ?_
  refine x_iload_n hM d_Mo_areAlike_10 rfl 2 rfl ?_
  obtain ⟨c3, F⟩ := F
  obtain ⟨c4, F⟩ := F
  refine x_iaload hG hM d_Mo_areAlike_11 c3 c4 ?_
  have JJ : ∀ (z1 : Int32) (ez1 : z1 = (if (kI h (rf h v0 27) (Int32.toNatClampNeg v1)) = (kI h (rf h v0 27) (Int32.toNatClampNeg v2)) then 1 else 0)), X G M Q 20 [(0, .ref v0), (1, .int v1), (2, .int v2)] [.int z1] h := by
    intro z1 ez1
    replace F := F _ ez1
    refine x_istore_n (lv2 := [(3, .int z1), (0, .ref v0), (1, .int v1), (2, .int v2)]) hM d_Mo_areAlike_20 rfl (Nat.le_of_ble_eq_true rfl) rfl ?_
    refine x_iconst (v := 0) hM d_Mo_areAlike_21 (by decide) ?_
    refine x_istore (lv2 := [(4, .int 0), (3, .int z1), (0, .ref v0), (1, .int v1), (2, .int v2)]) hM d_Mo_areAlike_22 (Nat.le_of_ble_eq_true rfl) rfl ?_
    refine x_sub [2, 3, 4, 1, 0] rfl ?_
    exact F
  refine x_icmp_ne (tgt := 19) hM d_Mo_areAlike_12 (by decide) (fun q2 => ?_) (fun q2 => ?_)
  · refine x_iconst (v := 0) hM d_Mo_areAlike_19 (by decide) ?_
    exact JJ _ (Eq.symm (if_neg q2))
  · refine x_iconst (v := 1) hM d_Mo_areAlike_15 (by decide) ?_
    refine x_goto (tgt := 20) hM d_Mo_areAlike_16 (by decide) ?_
    exact JJ _ (Eq.symm (if_pos q2))
set_option maxRecDepth 100000 in
set_option maxHeartbeats 4000000 in
theorem S_Mo_areAlike_24 {G : Gc} {M : Mc} {Q : State → Prop} {K : Option Value → Hp → Prop} (hG : gok G) (hM : mok G M r_Mo_areAlike Q K) (v0 : Nat) (v1 : Int32) (v2 : Int32) (v3 : Int32) (v4 : Int32) (h : Hp) (F : kT h v0 = 12 ∧ (((kI h v0 3) ≤ v4 → (nb v3 ∧ K (some (.int v3)) h)) ∧ (¬ (kI h v0 3) ≤ v4 → ((v3 = 0 → (nb v3 ∧ K (some (.int v3)) h)) ∧ (¬ v3 = 0 → (kT h v0 = 12 ∧ sem G r_Mo_isOneWay [.ref v0, .int v1, .int v2, .int v4] h (fun u2 h1 => ∃ x3 : Int32, u2 = some (.int x3) ∧ X G M Q 24 [(0, .ref v0), (1, .int v1), (2, .int v2), (3, .int x3), (4, .int (v4 + 1))] [] h1))))))) : X G M Q 24 [(0, .ref v0), (1, .int v1), (2, .int v2), (3, .int v3), (4, .int v4)] [] h := by
  refine x_iload hM d_Mo_areAlike_24 4 rfl ?_
  refine x_aload_n hM d_Mo_areAlike_26 rfl 0 rfl ?_
  obtain ⟨c7, F⟩ := F
  refine x_geti hG hM ck_Mo 3 (Nat.le_of_ble_eq_true rfl) rfl rfl w_900 rfl d_Mo_areAlike_27 c7 ?_
  refine x_icmp_ge (tgt := 52) hM d_Mo_areAlike_30 (by decide) (fun q6 => ?_) (fun q6 => ?_)
  · replace F := F.1 q6
    refine x_iload_n hM d_Mo_areAlike_52 rfl 3 rfl ?_
    exact x_zreturn hM d_Mo_areAlike_53 rfl F.1 F.2
  · replace F := F.2 q6
    refine x_iload_n hM d_Mo_areAlike_33 rfl 3 rfl ?_
    refine x_if_eq (tgt := 52) hM d_Mo_areAlike_34 (by decide) (fun q5 => ?_) (fun q5 => ?_)
    · replace F := F.1 q5
      refine x_iload_n hM d_Mo_areAlike_52 rfl 3 rfl ?_
      exact x_zreturn hM d_Mo_areAlike_53 rfl F.1 F.2
    · replace F := F.2 q5
      refine x_aload_n hM d_Mo_areAlike_37 rfl 0 rfl ?_
      refine x_iload_n hM d_Mo_areAlike_38 rfl 1 rfl ?_
      refine x_iload_n hM d_Mo_areAlike_39 rfl 2 rfl ?_
      refine x_iload hM d_Mo_areAlike_40 4 rfl ?_
      obtain ⟨c4, F⟩ := F
      refine x_callV hG hM (r' := r_Mo_isOneWay) (ci := 11) [.int v1, .int v2, .int v4] rfl rfl (Nat.le_of_ble_eq_true rfl) yk_Mo_isOneWay ⟨Nat.le_of_ble_eq_true rfl, Nat.le_of_ble_eq_true rfl⟩ w_1157 w_1159 ws_Mo_isOneWay rfl rfl (Nat.le_of_ble_eq_true rfl) d_Mo_areAlike_42 c4 (sem_mono F ?_)
      intro u2 h1 F
      obtain ⟨x3, rfl, F⟩ := F
      refine x_istore_n (lv2 := [(3, .int x3), (0, .ref v0), (1, .int v1), (2, .int v2), (4, .int v4)]) hM d_Mo_areAlike_45 rfl (Nat.le_of_ble_eq_true rfl) rfl ?_
      refine x_iinc (v := (v4 + 1)) (lv2 := [(4, .int (v4 + 1)), (3, .int x3), (0, .ref v0), (1, .int v1), (2, .int v2)]) hM d_Mo_areAlike_46 (j := 4) rfl rfl (Nat.le_of_ble_eq_true rfl) rfl ?_
      refine x_goto (tgt := 24) hM d_Mo_areAlike_49 (by decide) ?_
      refine x_sub [2, 3, 4, 1, 0] rfl ?_
      exact F
set_option maxRecDepth 100000 in
set_option maxHeartbeats 4000000 in
theorem S_Mo_isOneWay_0 {G : Gc} {M : Mc} {Q : State → Prop} {K : Option Value → Hp → Prop} (hG : gok G) (hM : mok G M r_Mo_isOneWay Q K) (v0 : Nat) (v1 : Int32) (v2 : Int32) (v3 : Int32) (h : Hp) (F : X G M Q 3 [(0, .ref v0), (1, .int v1), (2, .int v2), (3, .int v3), (4, .int 0)] [] h) : X G M Q 0 [(0, .ref v0), (1, .int v1), (2, .int v2), (3, .int v3)] [] h := by
  refine x_iconst (v := 0) hM d_Mo_isOneWay_0 (by decide) ?_
  refine x_istore (lv2 := [(4, .int 0), (0, .ref v0), (1, .int v1), (2, .int v2), (3, .int v3)]) hM d_Mo_isOneWay_1 (Nat.le_of_ble_eq_true rfl) rfl ?_
  refine x_sub [1, 2, 3, 4, 0] rfl ?_
  exact F
set_option maxRecDepth 100000 in
set_option maxHeartbeats 4000000 in
theorem S_Mo_isOneWay_3 {G : Gc} {M : Mc} {Q : State → Prop} {K : Option Value → Hp → Prop} (hG : gok G) (hM : mok G M r_Mo_isOneWay Q K) (v0 : Nat) (v1 : Int32) (v2 : Int32) (v3 : Int32) (v4 : Int32) (h : Hp) (F : kT h v0 = 12 ∧ kR h v0 4 = some (rf h v0 4) ∧ (kT h (rf h v0 4) = 50 ∧ vp_in v3 (kN h (rf h v0 4)) ∧ (((kI h (rf h v0 4) (Int32.toNatClampNeg v3)) ≤ v4 → K (some (.int 1)) h) ∧ (¬ (kI h (rf h v0 4) (Int32.toNatClampNeg v3)) ≤ v4 → (kT h v0 = 12 ∧ kR h v0 14 = some (rf h v0 14) ∧ (kT h (rf h v0 14) = 50 ∧ vp_in (((36 * v1) + (3 * v3)) + v4) (kN h (rf h v0 14)) ∧ (kT h v0 = 12 ∧ kR h v0 14 = some (rf h v0 14) ∧ (kT h (rf h v0 14) = 50 ∧ vp_in (((36 * v2) + (3 * v3)) + v4) (kN h (rf h v0 14)) ∧ (((kI h (rf h v0 14) (Int32.toNatClampNeg (((36 * v1) + (3 * v3)) + v4))) = (-1) → (∀ z1 : Int32, z1 = (if (kI h (rf h v0 14) (Int32.toNatClampNeg (((36 * v1) + (3 * v3)) + v4))) = (kI h (rf h v0 14) (Int32.toNatClampNeg (((36 * v2) + (3 * v3)) + v4))) then 1 else 0) → (nb z1 ∧ K (some (.int z1)) h))) ∧ (¬ (kI h (rf h v0 14) (Int32.toNatClampNeg (((36 * v1) + (3 * v3)) + v4))) = (-1) → (((kI h (rf h v0 14) (Int32.toNatClampNeg (((36 * v2) + (3 * v3)) + v4))) = (-1) → (∀ z3 : Int32, z3 = (if (kI h (rf h v0 14) (Int32.toNatClampNeg (((36 * v1) + (3 * v3)) + v4))) = (kI h (rf h v0 14) (Int32.toNatClampNeg (((36 * v2) + (3 * v3)) + v4))) then 1 else 0) → (nb z3 ∧ K (some (.int z3)) h))) ∧ (¬ (kI h (rf h v0 14) (Int32.toNatClampNeg (((36 * v2) + (3 * v3)) + v4))) = (-1) → X G M Q 84 [(0, .ref v0), (1, .int v1), (2, .int v2), (3, .int v3), (4, .int v4), (5, .int (kI h (rf h v0 14) (Int32.toNatClampNeg (((36 * v1) + (3 * v3)) + v4)))), (6, .int (kI h (rf h v0 14) (Int32.toNatClampNeg (((36 * v2) + (3 * v3)) + v4)))), (7, .int 0), (8, .int 0), (9, .int 0)] [] h)))))))))))) : X G M Q 3 [(0, .ref v0), (1, .int v1), (2, .int v2), (3, .int v3), (4, .int v4)] [] h := by
  refine x_iload hM d_Mo_isOneWay_3 4 rfl ?_
  refine x_aload_n hM d_Mo_isOneWay_5 rfl 0 rfl ?_
  obtain ⟨c18, F⟩ := F
  obtain ⟨c19, F⟩ := F
  refine x_getr hG hM ck_Mo 4 (Nat.le_of_ble_eq_true rfl) rfl rfl w_901 rfl d_Mo_isOneWay_6 c18 c19 ?_
  refine x_iload_n hM d_Mo_isOneWay_9 rfl 3 rfl ?_
  obtain ⟨c16, F⟩ := F
  obtain ⟨c17, F⟩ := F
  refine x_iaload hG hM d_Mo_isOneWay_10 c16 c17 ?_
  refine x_icmp_ge (tgt := 205) hM d_Mo_isOneWay_11 (by decide) (fun q15 => ?_) (fun q15 => ?_)
  · replace F := F.1 q15
    refine x_iconst (v := 1) hM d_Mo_isOneWay_205 (by decide) ?_
    exact x_zreturn hM d_Mo_isOneWay_206 rfl (Or.inr rfl) F
  · replace F := F.2 q15
    refine x_aload_n hM d_Mo_isOneWay_14 rfl 0 rfl ?_
    obtain ⟨c13, F⟩ := F
    obtain ⟨c14, F⟩ := F
    refine x_getr hG hM ck_Mo 14 (Nat.le_of_ble_eq_true rfl) rfl rfl w_911 rfl d_Mo_isOneWay_15 c13 c14 ?_
    refine x_bipush (v := 36) hM d_Mo_isOneWay_18 (by decide) ?_
    refine x_iload_n hM d_Mo_isOneWay_20 rfl 1 rfl ?_
    refine x_imul hM d_Mo_isOneWay_21 ?_
    refine x_iconst (v := 3) hM d_Mo_isOneWay_22 (by decide) ?_
    refine x_iload_n hM d_Mo_isOneWay_23 rfl 3 rfl ?_
    refine x_imul hM d_Mo_isOneWay_24 ?_
    refine x_iadd hM d_Mo_isOneWay_25 ?_
    refine x_iload hM d_Mo_isOneWay_26 4 rfl ?_
    refine x_iadd hM d_Mo_isOneWay_28 ?_
    obtain ⟨c11, F⟩ := F
    obtain ⟨c12, F⟩ := F
    refine x_iaload hG hM d_Mo_isOneWay_29 c11 c12 ?_
    refine x_istore (lv2 := [(5, .int (kI h (rf h v0 14) (Int32.toNatClampNeg (((36 * v1) + (3 * v3)) + v4)))), (0, .ref v0), (1, .int v1), (2, .int v2), (3, .int v3), (4, .int v4)]) hM d_Mo_isOneWay_30 (Nat.le_of_ble_eq_true rfl) rfl ?_
    refine x_aload_n hM d_Mo_isOneWay_32 rfl 1 rfl ?_
    obtain ⟨c9, F⟩ := F
    obtain ⟨c10, F⟩ := F
    refine x_getr hG hM ck_Mo 14 (Nat.le_of_ble_eq_true rfl) rfl rfl w_911 rfl d_Mo_isOneWay_33 c9 c10 ?_
    refine x_bipush (v := 36) hM d_Mo_isOneWay_36 (by decide) ?_
    refine x_iload_n hM d_Mo_isOneWay_38 rfl 3 rfl ?_
    refine x_imul hM d_Mo_isOneWay_39 ?_
    refine x_iconst (v := 3) hM d_Mo_isOneWay_40 (by decide) ?_
    refine x_iload_n hM d_Mo_isOneWay_41 rfl 4 rfl ?_
    refine x_imul hM d_Mo_isOneWay_42 ?_
    refine x_iadd hM d_Mo_isOneWay_43 ?_
    refine x_iload hM d_Mo_isOneWay_44 5 rfl ?_
    refine x_iadd hM d_Mo_isOneWay_46 ?_
    obtain ⟨c7, F⟩ := F
    obtain ⟨c8, F⟩ := F
    refine x_iaload hG hM d_Mo_isOneWay_47 c7 c8 ?_
    refine x_istore (lv2 := [(6, .int (kI h (rf h v0 14) (Int32.toNatClampNeg (((36 * v2) + (3 * v3)) + v4)))), (5, .int (kI h (rf h v0 14) (Int32.toNatClampNeg (((36 * v1) + (3 * v3)) + v4)))), (0, .ref v0), (1, .int v1), (2, .int v2), (3, .int v3), (4, .int v4)]) hM d_Mo_isOneWay_48 (Nat.le_of_ble_eq_true rfl) rfl ?_
    refine x_iload hM d_Mo_isOneWay_50 1 rfl ?_
    refine x_iconst (v := (-1)) hM d_Mo_isOneWay_52 (by decide) ?_
    refine x_icmp_eq (tgt := 62) hM d_Mo_isOneWay_53 (by decide) (fun q6 => ?_) (fun q6 => ?_)
    · replace F := F.1 q6
      refine x_iload hM d_Mo_isOneWay_62 1 rfl ?_
      refine x_iload hM d_Mo_isOneWay_64 0 rfl ?_
      have JJ : ∀ (z1 : Int32) (ez1 : z1 = (if (kI h (rf h v0 14) (Int32.toNatClampNeg (((36 * v1) + (3 * v3)) + v4))) = (kI h (rf h v0 14) (Int32.toNatClampNeg (((36 * v2) + (3 * v3)) + v4))) then 1 else 0)), X G M Q 74 [] [.int z1] h := by
        intro z1 ez1
        replace F := F _ ez1
        exact x_zreturn hM d_Mo_isOneWay_74 rfl F.1 F.2
      refine x_icmp_ne (tgt := 73) hM d_Mo_isOneWay_66 (by decide) (fun q2 => ?_) (fun q2 => ?_)
      · refine x_iconst (v := 0) hM d_Mo_isOneWay_73 (by decide) ?_
        refine x_sub [] rfl ?_
        exact JJ _ (Eq.symm (if_neg q2))
      · refine x_iconst (v := 1) hM d_Mo_isOneWay_69 (by decide) ?_
        refine x_goto (tgt := 74) hM d_Mo_isOneWay_70 (by decide) ?_
        refine x_sub [] rfl ?_
        exact JJ _ (Eq.symm (if_pos q2))
    · replace F := F.2 q6
      refine x_iload hM d_Mo_isOneWay_56 0 rfl ?_
      refine x_iconst (v := (-1)) hM d_Mo_isOneWay_58 (by decide) ?_
      refine x_icmp_ne (tgt := 75) hM d_Mo_isOneWay_59 (by decide) (fun q5 => ?_) (fun q5 => ?_)
      · replace F := F.2 q5
        refine x_iconst (v := 0) hM d_Mo_isOneWay_75 (by decide) ?_
        refine x_istore (lv2 := [(7, .int 0), (6, .int (kI h (rf h v0 14) (Int32.toNatClampNeg (((36 * v2) + (3 * v3)) + v4)))), (5, .int (kI h (rf h v0 14) (Int32.toNatClampNeg (((36 * v1) + (3 * v3)) + v4)))), (0, .ref v0), (1, .int v1), (2, .int v2), (3, .int v3), (4, .int v4)]) hM d_Mo_isOneWay_76 (Nat.le_of_ble_eq_true rfl) rfl ?_
        refine x_iconst (v := 0) hM d_Mo_isOneWay_78 (by decide) ?_
        refine x_istore (lv2 := [(8, .int 0), (7, .int 0), (6, .int (kI h (rf h v0 14) (Int32.toNatClampNeg (((36 * v2) + (3 * v3)) + v4)))), (5, .int (kI h (rf h v0 14) (Int32.toNatClampNeg (((36 * v1) + (3 * v3)) + v4)))), (0, .ref v0), (1, .int v1), (2, .int v2), (3, .int v3), (4, .int v4)]) hM d_Mo_isOneWay_79 (Nat.le_of_ble_eq_true rfl) rfl ?_
        refine x_iconst (v := 0) hM d_Mo_isOneWay_81 (by decide) ?_
        refine x_istore (lv2 := [(9, .int 0), (8, .int 0), (7, .int 0), (6, .int (kI h (rf h v0 14) (Int32.toNatClampNeg (((36 * v2) + (3 * v3)) + v4)))), (5, .int (kI h (rf h v0 14) (Int32.toNatClampNeg (((36 * v1) + (3 * v3)) + v4)))), (0, .ref v0), (1, .int v1), (2, .int v2), (3, .int v3), (4, .int v4)]) hM d_Mo_isOneWay_82 (Nat.le_of_ble_eq_true rfl) rfl ?_
        refine x_sub [5, 6, 7, 8, 9, 4, 3, 2, 1, 0] rfl ?_
        exact F
      · replace F := F.1 q5
        refine x_iload hM d_Mo_isOneWay_62 1 rfl ?_
        refine x_iload hM d_Mo_isOneWay_64 0 rfl ?_
        have JJ : ∀ (z3 : Int32) (ez3 : z3 = (if (kI h (rf h v0 14) (Int32.toNatClampNeg (((36 * v1) + (3 * v3)) + v4))) = (kI h (rf h v0 14) (Int32.toNatClampNeg (((36 * v2) + (3 * v3)) + v4))) then 1 else 0)), X G M Q 74 [] [.int z3] h := by
          intro z3 ez3
          replace F := F _ ez3
          exact x_zreturn hM d_Mo_isOneWay_74 rfl F.1 F.2
        refine x_icmp_ne (tgt := 73) hM d_Mo_isOneWay_66 (by decide) (fun q4 => ?_) (fun q4 => ?_)
        · refine x_iconst (v := 0) hM d_Mo_isOneWay_73 (by decide) ?_
          refine x_sub [] rfl ?_
          exact JJ _ (Eq.symm (if_neg q4))
        · refine x_iconst (v := 1) hM d_Mo_isOneWay_69 (by decide) ?_
          refine x_goto (tgt := 74) hM d_Mo_isOneWay_70 (by decide) ?_
          refine x_sub [] rfl ?_
          exact JJ _ (Eq.symm (if_pos q4))
set_option maxRecDepth 100000 in
set_option maxHeartbeats 4000000 in
theorem S_Mo_isOneWay_84 {G : Gc} {M : Mc} {Q : State → Prop} {K : Option Value → Hp → Prop} (hG : gok G) (hM : mok G M r_Mo_isOneWay Q K) (v0 : Nat) (v1 : Int32) (v2 : Int32) (v3 : Int32) (v4 : Int32) (v5 : Int32) (v6 : Int32) (v7 : Int32) (v8 : Int32) (v9 : Int32) (h : Hp) (F : kT h v0 = 12 ∧ kR h v0 4 = some (rf h v0 4) ∧ (kT h (rf h v0 4) = 50 ∧ vp_in v3 (kN h (rf h v0 4)) ∧ (((kI h (rf h v0 4) (Int32.toNatClampNeg v3)) ≤ v9 → ((v7 = 0 → K (some (.int 0)) h) ∧ (¬ v7 = 0 → ((v8 = 0 → K (some (.int 0)) h) ∧ (¬ v8 = 0 → X G M Q 3 [(0, .ref v0), (1, .int v1), (2, .int v2), (3, .int v3), (4, .int (v4 + 1))] [] h))))) ∧ (¬ (kI h (rf h v0 4) (Int32.toNatClampNeg v3)) ≤ v9 → ((v7 = 0 → (kT h v0 = 12 ∧ kR h v0 27 = some (rf h v0 27) ∧ kT h (rf h v0 27) = 50 ∧ vp_in v5 (kN h (rf h v0 27)) ∧ kT h v0 = 12 ∧ kR h v0 27 = some (rf h v0 27) ∧ kT h v0 = 12 ∧ kR h v0 14 = some (rf h v0 14) ∧ kT h (rf h v0 14) = 50 ∧ vp_in (((36 * v2) + (3 * v3)) + v9) (kN h (rf h v0 14)) ∧ kT h (rf h v0 27) = 50 ∧ vp_in (kI h (rf h v0 14) (Int32.toNatClampNeg (((36 * v2) + (3 * v3)) + v9))) (kN h (rf h v0 27)))) ∧ (∀ z3 : Int32, z3 = (if v7 = 0 then (if (kI h (rf h v0 27) (Int32.toNatClampNeg v5)) = (kI h (rf h v0 27) (Int32.toNatClampNeg (kI h (rf h v0 14) (Int32.toNatClampNeg (((36 * v2) + (3 * v3)) + v9))))) then 1 else 0) else 1) → ((v8 = 0 → (kT h v0 = 12 ∧ kR h v0 27 = some (rf h v0 27) ∧ kT h (rf h v0 27) = 50 ∧ vp_in v6 (kN h (rf h v0 27)) ∧ kT h v0 = 12 ∧ kR h v0 27 = some (rf h v0 27) ∧ kT h v0 = 12 ∧ kR h v0 14 = some (rf h v0 14) ∧ kT h (rf h v0 14) = 50 ∧ vp_in (((36 * v1) + (3 * v3)) + v9) (kN h (rf h v0 14)) ∧ kT h (rf h v0 27) = 50 ∧ vp_in (kI h (rf h v0 14) (Int32.toNatClampNeg (((36 * v1) + (3 * v3)) + v9))) (kN h (rf h v0 27)))) ∧ (∀ z4 : Int32, z4 = (if v8 = 0 then (if (kI h (rf h v0 27) (Int32.toNatClampNeg v6)) = (kI h (rf h v0 27) (Int32.toNatClampNeg (kI h (rf h v0 14) (Int32.toNatClampNeg (((36 * v1) + (3 * v3)) + v9))))) then 1 else 0) else 1) → X G M Q 84 [(0, .ref v0), (1, .int v1), (2, .int v2), (3, .int v3), (4, .int v4), (5, .int v5), (6, .int v6), (7, .int z3), (8, .int z4), (9, .int (v9 + 1))] [] h)))))))) : X G M Q 84 [(0, .ref v0), (1, .int v1), (2, .int v2), (3, .int v3), (4, .int v4), (5, .int v5), (6, .int v6), (7, .int v7), (8, .int v8), (9, .int v9)] [] h := by
  refine x_iload hM d_Mo_isOneWay_84 9 rfl ?_
  refine x_aload_n hM d_Mo_isOneWay_86 rfl 0 rfl ?_
  obtain ⟨c36, F⟩ := F
  obtain ⟨c37, F⟩ := F
  refine x_getr hG hM ck_Mo 4 (Nat.le_of_ble_eq_true rfl) rfl rfl w_901 rfl d_Mo_isOneWay_87 c36 c37 ?_
  refine x_iload_n hM d_Mo_isOneWay_90 rfl 3 rfl ?_
  obtain ⟨c34, F⟩ := F
  obtain ⟨c35, F⟩ := F
  refine x_iaload hG hM d_Mo_isOneWay_91 c34 c35 ?_
  refine x_icmp_ge (tgt := 187) hM d_Mo_isOneWay_92 (by decide) (fun q33 => ?_) (fun q33 => ?_)
  · replace F := F.1 q33
    refine x_iload hM d_Mo_isOneWay_187 7 rfl ?_
    refine x_if_eq (tgt := 197) hM d_Mo_isOneWay_189 (by decide) (fun q2 => ?_) (fun q2 => ?_)
    · replace F := F.1 q2
      refine x_iconst (v := 0) hM d_Mo_isOneWay_197 (by decide) ?_
      exact x_zreturn hM d_Mo_isOneWay_198 rfl (Or.inl rfl) F
    · replace F := F.2 q2
      refine x_iload hM d_Mo_isOneWay_192 8 rfl ?_
      refine x_if_ne (tgt := 199) hM d_Mo_isOneWay_194 (by decide) (fun q1 => ?_) (fun q1 => ?_)
      · replace F := F.2 q1
        refine x_iinc (v := (v4 + 1)) (lv2 := [(4, .int (v4 + 1)), (0, .ref v0), (1, .int v1), (2, .int v2), (3, .int v3), (5, .int v5), (6, .int v6), (7, .int v7), (8, .int v8), (9, .int v9)]) hM d_Mo_isOneWay_199 (j := 4) rfl rfl (Nat.le_of_ble_eq_true rfl) rfl ?_
        refine x_goto (tgt := 3) hM d_Mo_isOneWay_202 (by decide) ?_
        refine x_sub [1, 2, 3, 4, 0] rfl ?_
        exact F
      · replace F := F.1 q1
        refine x_iconst (v := 0) hM d_Mo_isOneWay_197 (by decide) ?_
        exact x_zreturn hM d_Mo_isOneWay_198 rfl (Or.inl rfl) F
  · replace F := F.2 q33
    refine x_iload hM d_Mo_isOneWay_95 7 rfl ?_
    obtain ⟨S, F⟩ := F
    have JJ : ∀ (z3 : Int32) (ez3 : z3 = (if v7 = 0 then (if (kI h (rf h v0 27) (Int32.toNatClampNeg v5)) = (kI h (rf h v0 27) (Int32.toNatClampNeg (kI h (rf h v0 14) (Int32.toNatClampNeg (((36 * v2) + (3 * v3)) + v9))))) then 1 else 0) else 1)), X G M Q 136 [(0, .ref v0), (1, .int v1), (2, .int v2), (3, .int v3), (4, .int v4), (5, .int v5), (6, .int v6), (8, .int v8), (9, .int v9)] [.int z3] h := by
      intro z3 ez3
      replace F := F _ ez3
      refine x_istore (lv2 := [(7, .int z3), (0, .ref v0), (1, .int v1), (2, .int v2), (3, .int v3), (4, .int v4), (5, .int v5), (6, .int v6), (8, .int v8), (9, .int v9)]) hM d_Mo_isOneWay_136 (Nat.le_of_ble_eq_true rfl) rfl ?_
      refine x_iload hM d_Mo_isOneWay_138 8 rfl ?_
      obtain ⟨S, F⟩ := F
      have JJ : ∀ (z4 : Int32) (ez4 : z4 = (if v8 = 0 then (if (kI h (rf h v0 27) (Int32.toNatClampNeg v6)) = (kI h (rf h v0 27) (Int32.toNatClampNeg (kI h (rf h v0 14) (Int32.toNatClampNeg (((36 * v1) + (3 * v3)) + v9))))) then 1 else 0) else 1)), X G M Q 179 [(0, .ref v0), (1, .int v1), (2, .int v2), (3, .int v3), (4, .int v4), (5, .int v5), (6, .int v6), (7, .int z3), (9, .int v9)] [.int z4] h := by
        intro z4 ez4
        replace F := F _ ez4
        refine x_istore (lv2 := [(8, .int z4), (0, .ref v0), (1, .int v1), (2, .int v2), (3, .int v3), (4, .int v4), (5, .int v5), (6, .int v6), (7, .int z3), (9, .int v9)]) hM d_Mo_isOneWay_179 (Nat.le_of_ble_eq_true rfl) rfl ?_
        refine x_iinc (v := (v9 + 1)) (lv2 := [(9, .int (v9 + 1)), (8, .int z4), (0, .ref v0), (1, .int v1), (2, .int v2), (3, .int v3), (4, .int v4), (5, .int v5), (6, .int v6), (7, .int z3)]) hM d_Mo_isOneWay_181 (j := 9) rfl rfl (Nat.le_of_ble_eq_true rfl) rfl ?_
        refine x_goto (tgt := 84) hM d_Mo_isOneWay_184 (by decide) ?_
        refine x_sub [2, 3, 4, 5, 6, 7, 8, 9, 1, 0] rfl ?_
        exact F
      refine x_if_ne (tgt := 174) hM d_Mo_isOneWay_140 (by decide) (fun q5 => ?_) (fun q5 => ?_)
      · refine x_iconst (v := 1) hM d_Mo_isOneWay_174 (by decide) ?_
        refine x_goto (tgt := 179) hM d_Mo_isOneWay_175 (by decide) ?_
        refine x_sub [1, 2, 3, 4, 5, 6, 7, 0, 9] rfl ?_
        exact JJ _ (Eq.symm (if_neg q5))
      · replace S := S q5
        refine x_aload_n hM d_Mo_isOneWay_143 rfl 1 rfl ?_
        obtain ⟨c6, S⟩ := S
        obtain ⟨c7, S⟩ := S
        refine x_getr hG hM ck_Mo 27 (Nat.le_of_ble_eq_true rfl) rfl rfl w_924 rfl d_Mo_isOneWay_144 c6 c7 ?_
        refine x_iload hM d_Mo_isOneWay_147 7 rfl ?_
        obtain ⟨c8, S⟩ := S
        obtain ⟨c9, S⟩ := S
        refine x_iaload hG hM d_Mo_isOneWay_149 c8 c9 ?_
        refine x_aload_n hM d_Mo_isOneWay_150 rfl 1 rfl ?_
        obtain ⟨c10, S⟩ := S
        obtain ⟨c11, S⟩ := S
        refine x_getr hG hM ck_Mo 27 (Nat.le_of_ble_eq_true rfl) rfl rfl w_924 rfl d_Mo_isOneWay_151 c10 c11 ?_
        refine x_aload_n hM d_Mo_isOneWay_154 rfl 1 rfl ?_
        obtain ⟨c12, S⟩ := S
        obtain ⟨c13, S⟩ := S
        refine x_getr hG hM ck_Mo 14 (Nat.le_of_ble_eq_true rfl) rfl rfl w_911 rfl d_Mo_isOneWay_155 c12 c13 ?_
        refine x_bipush (v := 36) hM d_Mo_isOneWay_158 (by decide) ?_
        refine x_iload_n hM d_Mo_isOneWay_160 rfl 2 rfl ?_
        refine x_imul hM d_Mo_isOneWay_161 ?_
        refine x_iconst (v := 3) hM d_Mo_isOneWay_162 (by decide) ?_
        refine x_iload_n hM d_Mo_isOneWay_163 rfl 4 rfl ?_
        refine x_imul hM d_Mo_isOneWay_164 ?_
        refine x_iadd hM d_Mo_isOneWay_165 ?_
        refine x_iload hM d_Mo_isOneWay_166 9 rfl ?_
        refine x_iadd hM d_Mo_isOneWay_168 ?_
        obtain ⟨c14, S⟩ := S
        obtain ⟨c15, S⟩ := S
        refine x_iaload hG hM d_Mo_isOneWay_169 c14 c15 ?_
        obtain ⟨c16, S⟩ := S
        have c17 := S
        refine x_iaload hG hM d_Mo_isOneWay_170 c16 c17 ?_
        refine x_icmp_ne (tgt := 178) hM d_Mo_isOneWay_171 (by decide) (fun q18 => ?_) (fun q18 => ?_)
        · refine x_iconst (v := 0) hM d_Mo_isOneWay_178 (by decide) ?_
          refine x_sub [1, 2, 3, 4, 5, 6, 7, 0, 9] rfl ?_
          exact JJ _ (Eq.symm (Eq.trans (if_pos q5) (if_neg q18)))
        · refine x_iconst (v := 1) hM d_Mo_isOneWay_174 (by decide) ?_
          refine x_goto (tgt := 179) hM d_Mo_isOneWay_175 (by decide) ?_
          refine x_sub [1, 2, 3, 4, 5, 6, 7, 0, 9] rfl ?_
          exact JJ _ (Eq.symm (Eq.trans (if_pos q5) (if_pos q18)))
    refine x_if_ne (tgt := 131) hM d_Mo_isOneWay_97 (by decide) (fun q19 => ?_) (fun q19 => ?_)
    · refine x_iconst (v := 1) hM d_Mo_isOneWay_131 (by decide) ?_
      refine x_goto (tgt := 136) hM d_Mo_isOneWay_132 (by decide) ?_
      refine x_sub [0, 1, 2, 3, 4, 5, 6, 8, 9] rfl ?_
      exact JJ _ (Eq.symm (if_neg q19))
    · replace S := S q19
      refine x_aload_n hM d_Mo_isOneWay_100 rfl 0 rfl ?_
      obtain ⟨c20, S⟩ := S
      obtain ⟨c21, S⟩ := S
      refine x_getr hG hM ck_Mo 27 (Nat.le_of_ble_eq_true rfl) rfl rfl w_924 rfl d_Mo_isOneWay_101 c20 c21 ?_
      refine x_iload hM d_Mo_isOneWay_104 5 rfl ?_
      obtain ⟨c22, S⟩ := S
      obtain ⟨c23, S⟩ := S
      refine x_iaload hG hM d_Mo_isOneWay_106 c22 c23 ?_
      refine x_aload_n hM d_Mo_isOneWay_107 rfl 0 rfl ?_
      obtain ⟨c24, S⟩ := S
      obtain ⟨c25, S⟩ := S
      refine x_getr hG hM ck_Mo 27 (Nat.le_of_ble_eq_true rfl) rfl rfl w_924 rfl d_Mo_isOneWay_108 c24 c25 ?_
      refine x_aload_n hM d_Mo_isOneWay_111 rfl 0 rfl ?_
      obtain ⟨c26, S⟩ := S
      obtain ⟨c27, S⟩ := S
      refine x_getr hG hM ck_Mo 14 (Nat.le_of_ble_eq_true rfl) rfl rfl w_911 rfl d_Mo_isOneWay_112 c26 c27 ?_
      refine x_bipush (v := 36) hM d_Mo_isOneWay_115 (by decide) ?_
      refine x_iload_n hM d_Mo_isOneWay_117 rfl 2 rfl ?_
      refine x_imul hM d_Mo_isOneWay_118 ?_
      refine x_iconst (v := 3) hM d_Mo_isOneWay_119 (by decide) ?_
      refine x_iload_n hM d_Mo_isOneWay_120 rfl 3 rfl ?_
      refine x_imul hM d_Mo_isOneWay_121 ?_
      refine x_iadd hM d_Mo_isOneWay_122 ?_
      refine x_iload hM d_Mo_isOneWay_123 9 rfl ?_
      refine x_iadd hM d_Mo_isOneWay_125 ?_
      obtain ⟨c28, S⟩ := S
      obtain ⟨c29, S⟩ := S
      refine x_iaload hG hM d_Mo_isOneWay_126 c28 c29 ?_
      obtain ⟨c30, S⟩ := S
      have c31 := S
      refine x_iaload hG hM d_Mo_isOneWay_127 c30 c31 ?_
      refine x_icmp_ne (tgt := 135) hM d_Mo_isOneWay_128 (by decide) (fun q32 => ?_) (fun q32 => ?_)
      · refine x_iconst (v := 0) hM d_Mo_isOneWay_135 (by decide) ?_
        refine x_sub [0, 1, 2, 3, 4, 5, 6, 8, 9] rfl ?_
        exact JJ _ (Eq.symm (Eq.trans (if_pos q19) (if_neg q32)))
      · refine x_iconst (v := 1) hM d_Mo_isOneWay_131 (by decide) ?_
        refine x_goto (tgt := 136) hM d_Mo_isOneWay_132 (by decide) ?_
        refine x_sub [0, 1, 2, 3, 4, 5, 6, 8, 9] rfl ?_
        exact JJ _ (Eq.symm (Eq.trans (if_pos q19) (if_pos q32)))
set_option maxRecDepth 100000 in
set_option maxHeartbeats 4000000 in
theorem S_Mo_of_0 {G : Gc} {M : Mc} {Q : State → Prop} {K : Option Value → Hp → Prop} (hG : gok G) (hM : mok G M r_Mo_of Q K) (v0 : Nat) (v1 : Int32) (v2 : Int32) (h : Hp) (F : kT h v0 = 12 ∧ sem G r_Mo_isState [.ref v0, .int v1] h (fun u2 h1 => ∃ x3 : Int32, u2 = some (.int x3) ∧ ((x3 = 0 → K (some (.int (-2))) h1) ∧ (¬ x3 = 0 → (sem G r_Mo_isIn [.int v2, .int 0, .int 4] h1 (fun u5 h4 => ∃ x6 : Int32, u5 = some (.int x6) ∧ ((x6 = 0 → K (some (.int (-2))) h4) ∧ (¬ x6 = 0 → (kT h4 v0 = 12 ∧ sem G r_Mo_lay [.ref v0] h4 (fun u8 h7 => u8 = none ∧ ((v2 = 0 → (kT h7 v0 = 12 ∧ kR h7 v0 19 = some (rf h7 v0 19) ∧ (kT h7 (rf h7 v0 19) = 50 ∧ vp_in v1 (kN h7 (rf h7 v0 19)) ∧ K (some (.int (kI h7 (rf h7 v0 19) (Int32.toNatClampNeg v1)))) h7))) ∧ (v2 = 1 → (kT h7 v0 = 12 ∧ kR h7 v0 20 = some (rf h7 v0 20) ∧ (kT h7 (rf h7 v0 20) = 50 ∧ vp_in v1 (kN h7 (rf h7 v0 20)) ∧ K (some (.int (kI h7 (rf h7 v0 20) (Int32.toNatClampNeg v1)))) h7))) ∧ (v2 = 2 → (kT h7 v0 = 12 ∧ kR h7 v0 21 = some (rf h7 v0 21) ∧ (kT h7 (rf h7 v0 21) = 50 ∧ vp_in v1 (kN h7 (rf h7 v0 21)) ∧ K (some (.int (kI h7 (rf h7 v0 21) (Int32.toNatClampNeg v1)))) h7))) ∧ (v2 = 3 → (kT h7 v0 = 12 ∧ kR h7 v0 22 = some (rf h7 v0 22) ∧ (kT h7 (rf h7 v0 22) = 50 ∧ vp_in v1 (kN h7 (rf h7 v0 22)) ∧ K (some (.int (kI h7 (rf h7 v0 22) (Int32.toNatClampNeg v1)))) h7))) ∧ (¬ v2 = 0 → ¬ v2 = 1 → ¬ v2 = 2 → ¬ v2 = 3 → (kT h7 v0 = 12 ∧ sem G r_Mo_partAll [.ref v0] h7 (fun u26 h25 => u26 = none ∧ X G M Q 90 [(0, .ref v0), (1, .int v1), (3, .int 0)] [] h25)))))))))))))) : X G M Q 0 [(0, .ref v0), (1, .int v1), (2, .int v2)] [] h := by
  refine x_aload_n hM d_Mo_of_0 rfl 0 rfl ?_
  refine x_iload_n hM d_Mo_of_1 rfl 1 rfl ?_
  obtain ⟨c31, F⟩ := F
  refine x_callV hG hM (r' := r_Mo_isState) (ci := 11) [.int v1] rfl rfl (Nat.le_of_ble_eq_true rfl) yk_Mo_isState ⟨Nat.le_of_ble_eq_true rfl, Nat.le_of_ble_eq_true rfl⟩ w_1028 w_1030 ws_Mo_isState rfl rfl (Nat.le_of_ble_eq_true rfl) d_Mo_of_2 c31 (sem_mono F ?_)
  intro u2 h1 F
  obtain ⟨x3, rfl, F⟩ := F
  refine x_if_eq (tgt := 17) hM d_Mo_of_5 (by decide) (fun q30 => ?_) (fun q30 => ?_)
  · replace F := F.1 q30
    refine x_bipush (v := (-2)) hM d_Mo_of_17 (by decide) ?_
    exact x_ireturn hM d_Mo_of_19 rfl F
  · replace F := F.2 q30
    refine x_iload_n hM d_Mo_of_8 rfl 2 rfl ?_
    refine x_iconst (v := 0) hM d_Mo_of_9 (by decide) ?_
    refine x_iconst (v := 4) hM d_Mo_of_10 (by decide) ?_
    refine x_callS hG hM (r' := r_Mo_isIn) [.int v2, .int 0, .int 4] rfl yk_Mo_isIn ⟨Nat.le_of_ble_eq_true rfl, Nat.le_of_ble_eq_true rfl⟩ w_1017 w_1018 rfl rfl (Nat.le_of_ble_eq_true rfl) d_Mo_of_11 (sem_mono F ?_)
    intro u5 h4 F
    obtain ⟨x6, rfl, F⟩ := F
    refine x_if_ne (tgt := 20) hM d_Mo_of_14 (by decide) (fun q29 => ?_) (fun q29 => ?_)
    · replace F := F.2 q29
      refine x_aload_n hM d_Mo_of_20 rfl 0 rfl ?_
      obtain ⟨c28, F⟩ := F
      refine x_callV hG hM (r' := r_Mo_lay) (ci := 11) [] rfl rfl (Nat.le_of_ble_eq_true rfl) yk_Mo_lay ⟨Nat.le_of_ble_eq_true rfl, Nat.le_of_ble_eq_true rfl⟩ w_1112 w_1114 ws_Mo_lay rfl rfl (Nat.le_of_ble_eq_true rfl) d_Mo_of_21 c28 (sem_mono F ?_)
      intro u8 h7 F
      obtain ⟨rfl, F⟩ := F
      refine x_iload_n hM d_Mo_of_24 rfl 2 rfl ?_
      by_cases q25_0 : v2 = 0
      · replace F := F.1 q25_0
        refine x_tblIn (tgt := 56) hM d_Mo_of_25 (by rw [q25_0]; decide) (by rw [q25_0]; decide) (by rw [q25_0]; rfl) (by decide) ?_
        refine x_aload_n hM d_Mo_of_56 rfl 0 rfl ?_
        obtain ⟨c11, F⟩ := F
        obtain ⟨c12, F⟩ := F
        refine x_getr hG hM ck_Mo 19 (Nat.le_of_ble_eq_true rfl) rfl rfl w_916 rfl d_Mo_of_57 c11 c12 ?_
        refine x_iload_n hM d_Mo_of_60 rfl 1 rfl ?_
        obtain ⟨c9, F⟩ := F
        obtain ⟨c10, F⟩ := F
        refine x_iaload hG hM d_Mo_of_61 c9 c10 ?_
        exact x_ireturn hM d_Mo_of_62 rfl F
      by_cases q25_1 : v2 = 1
      · replace F := F.2.1 q25_1
        refine x_tblIn (tgt := 63) hM d_Mo_of_25 (by rw [q25_1]; decide) (by rw [q25_1]; decide) (by rw [q25_1]; rfl) (by decide) ?_
        refine x_aload_n hM d_Mo_of_63 rfl 0 rfl ?_
        obtain ⟨c15, F⟩ := F
        obtain ⟨c16, F⟩ := F
        refine x_getr hG hM ck_Mo 20 (Nat.le_of_ble_eq_true rfl) rfl rfl w_917 rfl d_Mo_of_64 c15 c16 ?_
        refine x_iload_n hM d_Mo_of_67 rfl 1 rfl ?_
        obtain ⟨c13, F⟩ := F
        obtain ⟨c14, F⟩ := F
        refine x_iaload hG hM d_Mo_of_68 c13 c14 ?_
        exact x_ireturn hM d_Mo_of_69 rfl F
      by_cases q25_2 : v2 = 2
      · replace F := F.2.2.1 q25_2
        refine x_tblIn (tgt := 70) hM d_Mo_of_25 (by rw [q25_2]; decide) (by rw [q25_2]; decide) (by rw [q25_2]; rfl) (by decide) ?_
        refine x_aload_n hM d_Mo_of_70 rfl 0 rfl ?_
        obtain ⟨c19, F⟩ := F
        obtain ⟨c20, F⟩ := F
        refine x_getr hG hM ck_Mo 21 (Nat.le_of_ble_eq_true rfl) rfl rfl w_918 rfl d_Mo_of_71 c19 c20 ?_
        refine x_iload_n hM d_Mo_of_74 rfl 1 rfl ?_
        obtain ⟨c17, F⟩ := F
        obtain ⟨c18, F⟩ := F
        refine x_iaload hG hM d_Mo_of_75 c17 c18 ?_
        exact x_ireturn hM d_Mo_of_76 rfl F
      by_cases q25_3 : v2 = 3
      · replace F := F.2.2.2.1 q25_3
        refine x_tblIn (tgt := 77) hM d_Mo_of_25 (by rw [q25_3]; decide) (by rw [q25_3]; decide) (by rw [q25_3]; rfl) (by decide) ?_
        refine x_aload_n hM d_Mo_of_77 rfl 0 rfl ?_
        obtain ⟨c23, F⟩ := F
        obtain ⟨c24, F⟩ := F
        refine x_getr hG hM ck_Mo 22 (Nat.le_of_ble_eq_true rfl) rfl rfl w_919 rfl d_Mo_of_78 c23 c24 ?_
        refine x_iload_n hM d_Mo_of_81 rfl 1 rfl ?_
        obtain ⟨c21, F⟩ := F
        obtain ⟨c22, F⟩ := F
        refine x_iaload hG hM d_Mo_of_82 c21 c22 ?_
        exact x_ireturn hM d_Mo_of_83 rfl F
      replace F := F.2.2.2.2 q25_0 q25_1 q25_2 q25_3
      refine x_tblOut (tgt := 84) hM d_Mo_of_25 (sw_out3 q25_0 q25_1 q25_2 q25_3) (by decide) ?_
      refine x_aload_n hM d_Mo_of_84 rfl 0 rfl ?_
      obtain ⟨c27, F⟩ := F
      refine x_callV hG hM (r' := r_Mo_partAll) (ci := 11) [] rfl rfl (Nat.le_of_ble_eq_true rfl) yk_Mo_partAll ⟨Nat.le_of_ble_eq_true rfl, Nat.le_of_ble_eq_true rfl⟩ w_1140 w_1142 ws_Mo_partAll rfl rfl (Nat.le_of_ble_eq_true rfl) d_Mo_of_85 c27 (sem_mono F ?_)
      intro u26 h25 F
      obtain ⟨rfl, F⟩ := F
      refine x_iconst (v := 0) hM d_Mo_of_88 (by decide) ?_
      refine x_istore_n (lv2 := [(3, .int 0), (0, .ref v0), (1, .int v1), (2, .int v2)]) hM d_Mo_of_89 rfl (Nat.le_of_ble_eq_true rfl) rfl ?_
      refine x_sub [1, 2, 0] rfl ?_
      exact F
    · replace F := F.1 q29
      refine x_bipush (v := (-2)) hM d_Mo_of_17 (by decide) ?_
      exact x_ireturn hM d_Mo_of_19 rfl F
set_option maxRecDepth 100000 in
set_option maxHeartbeats 4000000 in
theorem S_Mo_of_90 {G : Gc} {M : Mc} {Q : State → Prop} {K : Option Value → Hp → Prop} (hG : gok G) (hM : mok G M r_Mo_of Q K) (v0 : Nat) (v1 : Int32) (v3 : Int32) (h : Hp) (F : kT h v0 = 12 ∧ kR h v0 27 = some (rf h v0 27) ∧ (kT h (rf h v0 27) = 50 ∧ vp_in v3 (kN h (rf h v0 27)) ∧ (kT h v0 = 12 ∧ kR h v0 27 = some (rf h v0 27) ∧ (kT h (rf h v0 27) = 50 ∧ vp_in v1 (kN h (rf h v0 27)) ∧ (((kI h (rf h v0 27) (Int32.toNatClampNeg v3)) = (kI h (rf h v0 27) (Int32.toNatClampNeg v1)) → K (some (.int v3)) h) ∧ (¬ (kI h (rf h v0 27) (Int32.toNatClampNeg v3)) = (kI h (rf h v0 27) (Int32.toNatClampNeg v1)) → X G M Q 90 [(0, .ref v0), (1, .int v1), (3, .int (v3 + 1))] [] h)))))) : X G M Q 90 [(0, .ref v0), (1, .int v1), (3, .int v3)] [] h := by
  refine x_aload_n hM d_Mo_of_90 rfl 0 rfl ?_
  obtain ⟨c8, F⟩ := F
  obtain ⟨c9, F⟩ := F
  refine x_getr hG hM ck_Mo 27 (Nat.le_of_ble_eq_true rfl) rfl rfl w_924 rfl d_Mo_of_91 c8 c9 ?_
  refine x_iload_n hM d_Mo_of_94 rfl 2 rfl ?_
  obtain ⟨c6, F⟩ := F
  obtain ⟨c7, F⟩ := F
  refine x_iaload hG hM d_Mo_of_95 c6 c7 ?_
  refine x_aload_n hM d_Mo_of_96 rfl 0 rfl ?_
  obtain ⟨c4, F⟩ := F
  obtain ⟨c5, F⟩ := F
  refine x_getr hG hM ck_Mo 27 (Nat.le_of_ble_eq_true rfl) rfl rfl w_924 rfl d_Mo_of_97 c4 c5 ?_
  refine x_iload_n hM d_Mo_of_100 rfl 1 rfl ?_
  obtain ⟨c2, F⟩ := F
  obtain ⟨c3, F⟩ := F
  refine x_iaload hG hM d_Mo_of_101 c2 c3 ?_
  refine x_icmp_eq (tgt := 111) hM d_Mo_of_102 (by decide) (fun q1 => ?_) (fun q1 => ?_)
  · replace F := F.1 q1
    refine x_iload_n hM d_Mo_of_111 rfl 2 rfl ?_
    exact x_ireturn hM d_Mo_of_112 rfl F
  · replace F := F.2 q1
    refine x_iinc (v := (v3 + 1)) (lv2 := [(3, .int (v3 + 1)), (0, .ref v0), (1, .int v1)]) hM d_Mo_of_105 (j := 2) rfl rfl (Nat.le_of_ble_eq_true rfl) rfl ?_
    refine x_goto (tgt := 90) hM d_Mo_of_108 (by decide) ?_
    refine x_sub [1, 2, 0] rfl ?_
    exact F
set_option maxRecDepth 100000 in
set_option maxHeartbeats 4000000 in
theorem S_Mo_best_0 {G : Gc} {M : Mc} {Q : State → Prop} {K : Option Value → Hp → Prop} (hG : gok G) (hM : mok G M r_Mo_best Q K) (v0 : Nat) (v1 : Int32) (v2 : Int32) (h : Hp) (F : kT h v0 = 12 ∧ sem G r_Mo_isState [.ref v0, .int v1] h (fun u2 h1 => ∃ x3 : Int32, u2 = some (.int x3) ∧ ((x3 = 0 → K (some (.int (-2))) h1) ∧ (¬ x3 = 0 → (sem G r_Mo_isIn [.int v2, .int 1, .int 3] h1 (fun u5 h4 => ∃ x6 : Int32, u5 = some (.int x6) ∧ ((x6 = 0 → K (some (.int (-2))) h4) ∧ (¬ x6 = 0 → (kT h4 v0 = 12 ∧ sem G r_Mo_lay [.ref v0] h4 (fun u8 h7 => u8 = none ∧ (((v2 = 1 → (kT h7 v0 = 12 ∧ kR h7 v0 20 = some (rf h7 v0 20) ∧ kT h7 (rf h7 v0 20) = 50 ∧ vp_in v1 (kN h7 (rf h7 v0 20)))) ∧ (¬ v2 = 1 → ((v2 = 2 → (kT h7 v0 = 12 ∧ kR h7 v0 21 = some (rf h7 v0 21) ∧ kT h7 (rf h7 v0 21) = 50 ∧ vp_in v1 (kN h7 (rf h7 v0 21)))) ∧ (¬ v2 = 2 → (kT h7 v0 = 12 ∧ kR h7 v0 22 = some (rf h7 v0 22) ∧ kT h7 (rf h7 v0 22) = 50 ∧ vp_in v1 (kN h7 (rf h7 v0 22))))))) ∧ (∀ z9 : Int32, z9 = (if v2 = 1 then (kI h7 (rf h7 v0 20) (Int32.toNatClampNeg v1)) else (if v2 = 2 then (kI h7 (rf h7 v0 21) (Int32.toNatClampNeg v1)) else (kI h7 (rf h7 v0 22) (Int32.toNatClampNeg v1)))) → ((1 ≤ z9 → X G M Q 69 [(0, .ref v0), (1, .int v1), (2, .int v2), (3, .int z9), (4, .int 0)] [] h7) ∧ (¬ 1 ≤ z9 → K (some (.int (-1))) h7)))))))))))))) : X G M Q 0 [(0, .ref v0), (1, .int v1), (2, .int v2)] [] h := by
  refine x_aload_n hM d_Mo_best_0 rfl 0 rfl ?_
  refine x_iload_n hM d_Mo_best_1 rfl 1 rfl ?_
  obtain ⟨c28, F⟩ := F
  refine x_callV hG hM (r' := r_Mo_isState) (ci := 11) [.int v1] rfl rfl (Nat.le_of_ble_eq_true rfl) yk_Mo_isState ⟨Nat.le_of_ble_eq_true rfl, Nat.le_of_ble_eq_true rfl⟩ w_1028 w_1030 ws_Mo_isState rfl rfl (Nat.le_of_ble_eq_true rfl) d_Mo_best_2 c28 (sem_mono F ?_)
  intro u2 h1 F
  obtain ⟨x3, rfl, F⟩ := F
  refine x_if_eq (tgt := 17) hM d_Mo_best_5 (by decide) (fun q27 => ?_) (fun q27 => ?_)
  · replace F := F.1 q27
    refine x_bipush (v := (-2)) hM d_Mo_best_17 (by decide) ?_
    exact x_ireturn hM d_Mo_best_19 rfl F
  · replace F := F.2 q27
    refine x_iload_n hM d_Mo_best_8 rfl 2 rfl ?_
    refine x_iconst (v := 1) hM d_Mo_best_9 (by decide) ?_
    refine x_iconst (v := 3) hM d_Mo_best_10 (by decide) ?_
    refine x_callS hG hM (r' := r_Mo_isIn) [.int v2, .int 1, .int 3] rfl yk_Mo_isIn ⟨Nat.le_of_ble_eq_true rfl, Nat.le_of_ble_eq_true rfl⟩ w_1017 w_1018 rfl rfl (Nat.le_of_ble_eq_true rfl) d_Mo_best_11 (sem_mono F ?_)
    intro u5 h4 F
    obtain ⟨x6, rfl, F⟩ := F
    refine x_if_ne (tgt := 20) hM d_Mo_best_14 (by decide) (fun q26 => ?_) (fun q26 => ?_)
    · replace F := F.2 q26
      refine x_aload_n hM d_Mo_best_20 rfl 0 rfl ?_
      obtain ⟨c25, F⟩ := F
      refine x_callV hG hM (r' := r_Mo_lay) (ci := 11) [] rfl rfl (Nat.le_of_ble_eq_true rfl) yk_Mo_lay ⟨Nat.le_of_ble_eq_true rfl, Nat.le_of_ble_eq_true rfl⟩ w_1112 w_1114 ws_Mo_lay rfl rfl (Nat.le_of_ble_eq_true rfl) d_Mo_best_21 c25 (sem_mono F ?_)
      intro u8 h7 F
      obtain ⟨rfl, F⟩ := F
      refine x_iload_n hM d_Mo_best_24 rfl 2 rfl ?_
      refine x_iconst (v := 1) hM d_Mo_best_25 (by decide) ?_
      obtain ⟨S, F⟩ := F
      have JJ : ∀ (z9 : Int32) (ez9 : z9 = (if v2 = 1 then (kI h7 (rf h7 v0 20) (Int32.toNatClampNeg v1)) else (if v2 = 2 then (kI h7 (rf h7 v0 21) (Int32.toNatClampNeg v1)) else (kI h7 (rf h7 v0 22) (Int32.toNatClampNeg v1))))), X G M Q 58 [(0, .ref v0), (1, .int v1), (2, .int v2)] [.int z9] h7 := by
        intro z9 ez9
        replace F := F _ ez9
        refine x_istore_n (lv2 := [(3, .int z9), (0, .ref v0), (1, .int v1), (2, .int v2)]) hM d_Mo_best_58 rfl (Nat.le_of_ble_eq_true rfl) rfl ?_
        refine x_iload_n hM d_Mo_best_59 rfl 0 rfl ?_
        refine x_iconst (v := 1) hM d_Mo_best_60 (by decide) ?_
        refine x_icmp_ge (tgt := 66) hM d_Mo_best_61 (by decide) (fun q10 => ?_) (fun q10 => ?_)
        · replace F := F.1 q10
          refine x_iconst (v := 0) hM d_Mo_best_66 (by decide) ?_
          refine x_istore (lv2 := [(4, .int 0), (3, .int z9), (0, .ref v0), (1, .int v1), (2, .int v2)]) hM d_Mo_best_67 (Nat.le_of_ble_eq_true rfl) rfl ?_
          refine x_sub [2, 3, 4, 1, 0] rfl ?_
          exact F
        · replace F := F.2 q10
          refine x_iconst (v := (-1)) hM d_Mo_best_64 (by decide) ?_
          exact x_ireturn hM d_Mo_best_65 rfl F
      refine x_icmp_ne (tgt := 38) hM d_Mo_best_26 (by decide) (fun q11 => ?_) (fun q11 => ?_)
      · replace S := S.2 q11
        refine x_iload_n hM d_Mo_best_38 rfl 2 rfl ?_
        refine x_iconst (v := 2) hM d_Mo_best_39 (by decide) ?_
        refine x_icmp_ne (tgt := 52) hM d_Mo_best_40 (by decide) (fun q12 => ?_) (fun q12 => ?_)
        · replace S := S.2 q12
          refine x_aload_n hM d_Mo_best_52 rfl 0 rfl ?_
          obtain ⟨c13, S⟩ := S
          obtain ⟨c14, S⟩ := S
          refine x_getr hG hM ck_Mo 22 (Nat.le_of_ble_eq_true rfl) rfl rfl w_919 rfl d_Mo_best_53 c13 c14 ?_
          refine x_iload_n hM d_Mo_best_56 rfl 1 rfl ?_
          obtain ⟨c15, S⟩ := S
          have c16 := S
          refine x_iaload hG hM d_Mo_best_57 c15 c16 ?_
          exact JJ _ (Eq.symm (Eq.trans (if_neg q11) (if_neg q12)))
        · replace S := S.1 q12
          refine x_aload_n hM d_Mo_best_43 rfl 0 rfl ?_
          obtain ⟨c17, S⟩ := S
          obtain ⟨c18, S⟩ := S
          refine x_getr hG hM ck_Mo 21 (Nat.le_of_ble_eq_true rfl) rfl rfl w_918 rfl d_Mo_best_44 c17 c18 ?_
          refine x_iload_n hM d_Mo_best_47 rfl 1 rfl ?_
          obtain ⟨c19, S⟩ := S
          have c20 := S
          refine x_iaload hG hM d_Mo_best_48 c19 c20 ?_
          refine x_goto (tgt := 58) hM d_Mo_best_49 (by decide) ?_
          exact JJ _ (Eq.symm (Eq.trans (if_neg q11) (if_pos q12)))
      · replace S := S.1 q11
        refine x_aload_n hM d_Mo_best_29 rfl 0 rfl ?_
        obtain ⟨c21, S⟩ := S
        obtain ⟨c22, S⟩ := S
        refine x_getr hG hM ck_Mo 20 (Nat.le_of_ble_eq_true rfl) rfl rfl w_917 rfl d_Mo_best_30 c21 c22 ?_
        refine x_iload_n hM d_Mo_best_33 rfl 1 rfl ?_
        obtain ⟨c23, S⟩ := S
        have c24 := S
        refine x_iaload hG hM d_Mo_best_34 c23 c24 ?_
        refine x_goto (tgt := 58) hM d_Mo_best_35 (by decide) ?_
        exact JJ _ (Eq.symm (if_pos q11))
    · replace F := F.1 q26
      refine x_bipush (v := (-2)) hM d_Mo_best_17 (by decide) ?_
      exact x_ireturn hM d_Mo_best_19 rfl F
set_option maxRecDepth 100000 in
set_option maxHeartbeats 4000000 in
theorem S_Mo_best_69 {G : Gc} {M : Mc} {Q : State → Prop} {K : Option Value → Hp → Prop} (hG : gok G) (hM : mok G M r_Mo_best Q K) (v0 : Nat) (v1 : Int32) (v2 : Int32) (v3 : Int32) (v4 : Int32) (h : Hp) (F : kT h v0 = 12 ∧ (((kI h v0 3) ≤ v4 → K (some (.int (-1))) h) ∧ (¬ (kI h v0 3) ≤ v4 → X G M Q 90 [(0, .ref v0), (1, .int v1), (2, .int v2), (3, .int v3), (4, .int v4), (5, .int 0), (6, .int 1), (7, .int 1), (8, .int 0)] [] h))) : X G M Q 69 [(0, .ref v0), (1, .int v1), (2, .int v2), (3, .int v3), (4, .int v4)] [] h := by
  refine x_iload hM d_Mo_best_69 4 rfl ?_
  refine x_aload_n hM d_Mo_best_71 rfl 0 rfl ?_
  obtain ⟨c2, F⟩ := F
  refine x_geti hG hM ck_Mo 3 (Nat.le_of_ble_eq_true rfl) rfl rfl w_900 rfl d_Mo_best_72 c2 ?_
  refine x_icmp_ge (tgt := 292) hM d_Mo_best_75 (by decide) (fun q1 => ?_) (fun q1 => ?_)
  · replace F := F.1 q1
    refine x_iconst (v := (-1)) hM d_Mo_best_292 (by decide) ?_
    exact x_ireturn hM d_Mo_best_293 rfl F
  · replace F := F.2 q1
    refine x_iconst (v := 0) hM d_Mo_best_78 (by decide) ?_
    refine x_istore (lv2 := [(5, .int 0), (0, .ref v0), (1, .int v1), (2, .int v2), (3, .int v3), (4, .int v4)]) hM d_Mo_best_79 (Nat.le_of_ble_eq_true rfl) rfl ?_
    refine x_iconst (v := 1) hM d_Mo_best_81 (by decide) ?_
    refine x_istore (lv2 := [(6, .int 1), (5, .int 0), (0, .ref v0), (1, .int v1), (2, .int v2), (3, .int v3), (4, .int v4)]) hM d_Mo_best_82 (Nat.le_of_ble_eq_true rfl) rfl ?_
    refine x_iconst (v := 1) hM d_Mo_best_84 (by decide) ?_
    refine x_istore (lv2 := [(7, .int 1), (6, .int 1), (5, .int 0), (0, .ref v0), (1, .int v1), (2, .int v2), (3, .int v3), (4, .int v4)]) hM d_Mo_best_85 (Nat.le_of_ble_eq_true rfl) rfl ?_
    refine x_iconst (v := 0) hM d_Mo_best_87 (by decide) ?_
    refine x_istore (lv2 := [(8, .int 0), (7, .int 1), (6, .int 1), (5, .int 0), (0, .ref v0), (1, .int v1), (2, .int v2), (3, .int v3), (4, .int v4)]) hM d_Mo_best_88 (Nat.le_of_ble_eq_true rfl) rfl ?_
    refine x_sub [4, 5, 6, 7, 8, 3, 2, 1, 0] rfl ?_
    exact F
set_option maxRecDepth 100000 in
set_option maxHeartbeats 4000000 in
theorem S_Mo_best_90 {G : Gc} {M : Mc} {Q : State → Prop} {K : Option Value → Hp → Prop} (hG : gok G) (hM : mok G M r_Mo_best Q K) (v0 : Nat) (v1 : Int32) (v2 : Int32) (v3 : Int32) (v4 : Int32) (v5 : Int32) (v6 : Int32) (v7 : Int32) (v8 : Int32) (h : Hp) (F : kT h v0 = 12 ∧ kR h v0 4 = some (rf h v0 4) ∧ (kT h (rf h v0 4) = 50 ∧ vp_in v4 (kN h (rf h v0 4)) ∧ (((kI h (rf h v0 4) (Int32.toNatClampNeg v4)) ≤ v8 → ((v2 = 1 → ((v5 = 0 → X G M Q 69 [(0, .ref v0), (1, .int v1), (2, .int v2), (3, .int v3), (4, .int (v4 + 1))] [] h) ∧ (¬ v5 = 0 → K (some (.int v4)) h))) ∧ (¬ v2 = 1 → ((v2 = 2 → ((v6 = 0 → X G M Q 69 [(0, .ref v0), (1, .int v1), (2, .int v2), (3, .int v3), (4, .int (v4 + 1))] [] h) ∧ (¬ v6 = 0 → K (some (.int v4)) h))) ∧ (¬ v2 = 2 → ((v5 = 0 → X G M Q 69 [(0, .ref v0), (1, .int v1), (2, .int v2), (3, .int v3), (4, .int (v4 + 1))] [] h) ∧ (¬ v5 = 0 → ((v7 = 0 → X G M Q 69 [(0, .ref v0), (1, .int v1), (2, .int v2), (3, .int v3), (4, .int (v4 + 1))] [] h) ∧ (¬ v7 = 0 → K (some (.int v4)) h))))))))) ∧ (¬ (kI h (rf h v0 4) (Int32.toNatClampNeg v4)) ≤ v8 → (kT h v0 = 12 ∧ kR h v0 14 = some (rf h v0 14) ∧ (kT h (rf h v0 14) = 50 ∧ vp_in (((36 * v1) + (3 * v4)) + v8) (kN h (rf h v0 14)) ∧ ((¬ (kI h (rf h v0 14) (Int32.toNatClampNeg (((36 * v1) + (3 * v4)) + v8))) = (-1) → ((v2 = 1 → (kT h v0 = 12 ∧ kR h v0 20 = some (rf h v0 20) ∧ kT h (rf h v0 20) = 50 ∧ vp_in (kI h (rf h v0 14) (Int32.toNatClampNeg (((36 * v1) + (3 * v4)) + v8))) (kN h (rf h v0 20)))) ∧ (¬ v2 = 1 → ((v2 = 2 → (kT h v0 = 12 ∧ kR h v0 21 = some (rf h v0 21) ∧ kT h (rf h v0 21) = 50 ∧ vp_in (kI h (rf h v0 14) (Int32.toNatClampNeg (((36 * v1) + (3 * v4)) + v8))) (kN h (rf h v0 21)))) ∧ (¬ v2 = 2 → (kT h v0 = 12 ∧ kR h v0 22 = some (rf h v0 22) ∧ kT h (rf h v0 22) = 50 ∧ vp_in (kI h (rf h v0 14) (Int32.toNatClampNeg (((36 * v1) + (3 * v4)) + v8))) (kN h (rf h v0 22)))))))) ∧ (∀ z7 : Int32, z7 = (if (kI h (rf h v0 14) (Int32.toNatClampNeg (((36 * v1) + (3 * v4)) + v8))) = (-1) then (-1) else (if v2 = 1 then (kI h (rf h v0 20) (Int32.toNatClampNeg (kI h (rf h v0 14) (Int32.toNatClampNeg (((36 * v1) + (3 * v4)) + v8))))) else (if v2 = 2 then (kI h (rf h v0 21) (Int32.toNatClampNeg (kI h (rf h v0 14) (Int32.toNatClampNeg (((36 * v1) + (3 * v4)) + v8))))) else (kI h (rf h v0 22) (Int32.toNatClampNeg (kI h (rf h v0 14) (Int32.toNatClampNeg (((36 * v1) + (3 * v4)) + v8)))))))) → (∀ z8 : Int32, z8 = (if z7 = (-1) then 0 else (if v3 ≤ z7 then 0 else 1)) → (∀ z9 : Int32, z9 = (if v5 = 0 then (if z8 = 0 then 0 else 1) else 1) → (∀ z10 : Int32, z10 = (if v6 = 0 then 0 else (if z8 = 0 then 0 else 1)) → (∀ z11 : Int32, z11 = (if v7 = 0 then 0 else (if z7 = (-1) then 0 else 1)) → X G M Q 90 [(0, .ref v0), (1, .int v1), (2, .int v2), (3, .int v3), (4, .int v4), (5, .int z9), (6, .int z10), (7, .int z11), (8, .int (v8 + 1))] [] h)))))))))))) : X G M Q 90 [(0, .ref v0), (1, .int v1), (2, .int v2), (3, .int v3), (4, .int v4), (5, .int v5), (6, .int v6), (7, .int v7), (8, .int v8)] [] h := by
  refine x_iload hM d_Mo_best_90 8 rfl ?_
  refine x_aload_n hM d_Mo_best_92 rfl 0 rfl ?_
  obtain ⟨c42, F⟩ := F
  obtain ⟨c43, F⟩ := F
  refine x_getr hG hM ck_Mo 4 (Nat.le_of_ble_eq_true rfl) rfl rfl w_901 rfl d_Mo_best_93 c42 c43 ?_
  refine x_iload hM d_Mo_best_96 4 rfl ?_
  obtain ⟨c40, F⟩ := F
  obtain ⟨c41, F⟩ := F
  refine x_iaload hG hM d_Mo_best_98 c40 c41 ?_
  refine x_icmp_ge (tgt := 247) hM d_Mo_best_99 (by decide) (fun q39 => ?_) (fun q39 => ?_)
  · replace F := F.1 q39
    refine x_iload_n hM d_Mo_best_247 rfl 2 rfl ?_
    refine x_iconst (v := 1) hM d_Mo_best_248 (by decide) ?_
    refine x_icmp_ne (tgt := 260) hM d_Mo_best_249 (by decide) (fun q6 => ?_) (fun q6 => ?_)
    · replace F := F.2 q6
      refine x_iload_n hM d_Mo_best_260 rfl 2 rfl ?_
      refine x_iconst (v := 2) hM d_Mo_best_261 (by decide) ?_
      refine x_icmp_ne (tgt := 273) hM d_Mo_best_262 (by decide) (fun q4 => ?_) (fun q4 => ?_)
      · replace F := F.2 q4
        refine x_iload hM d_Mo_best_273 5 rfl ?_
        refine x_if_eq (tgt := 286) hM d_Mo_best_275 (by decide) (fun q2 => ?_) (fun q2 => ?_)
        · replace F := F.1 q2
          refine x_iinc (v := (v4 + 1)) (lv2 := [(4, .int (v4 + 1)), (0, .ref v0), (1, .int v1), (2, .int v2), (3, .int v3), (5, .int v5), (6, .int v6), (7, .int v7), (8, .int v8)]) hM d_Mo_best_286 (j := 4) rfl rfl (Nat.le_of_ble_eq_true rfl) rfl ?_
          refine x_goto (tgt := 69) hM d_Mo_best_289 (by decide) ?_
          refine x_sub [1, 2, 3, 4, 0] rfl ?_
          exact F
        · replace F := F.2 q2
          refine x_iload hM d_Mo_best_278 7 rfl ?_
          refine x_if_eq (tgt := 286) hM d_Mo_best_280 (by decide) (fun q1 => ?_) (fun q1 => ?_)
          · replace F := F.1 q1
            refine x_iinc (v := (v4 + 1)) (lv2 := [(4, .int (v4 + 1)), (0, .ref v0), (1, .int v1), (2, .int v2), (3, .int v3), (5, .int v5), (6, .int v6), (7, .int v7), (8, .int v8)]) hM d_Mo_best_286 (j := 4) rfl rfl (Nat.le_of_ble_eq_true rfl) rfl ?_
            refine x_goto (tgt := 69) hM d_Mo_best_289 (by decide) ?_
            refine x_sub [1, 2, 3, 4, 0] rfl ?_
            exact F
          · replace F := F.2 q1
            refine x_iload hM d_Mo_best_283 4 rfl ?_
            exact x_ireturn hM d_Mo_best_285 rfl F
      · replace F := F.1 q4
        refine x_iload hM d_Mo_best_265 6 rfl ?_
        refine x_if_eq (tgt := 286) hM d_Mo_best_267 (by decide) (fun q3 => ?_) (fun q3 => ?_)
        · replace F := F.1 q3
          refine x_iinc (v := (v4 + 1)) (lv2 := [(4, .int (v4 + 1)), (0, .ref v0), (1, .int v1), (2, .int v2), (3, .int v3), (5, .int v5), (6, .int v6), (7, .int v7), (8, .int v8)]) hM d_Mo_best_286 (j := 4) rfl rfl (Nat.le_of_ble_eq_true rfl) rfl ?_
          refine x_goto (tgt := 69) hM d_Mo_best_289 (by decide) ?_
          refine x_sub [1, 2, 3, 4, 0] rfl ?_
          exact F
        · replace F := F.2 q3
          refine x_goto (tgt := 283) hM d_Mo_best_270 (by decide) ?_
          refine x_iload hM d_Mo_best_283 4 rfl ?_
          exact x_ireturn hM d_Mo_best_285 rfl F
    · replace F := F.1 q6
      refine x_iload hM d_Mo_best_252 5 rfl ?_
      refine x_if_eq (tgt := 286) hM d_Mo_best_254 (by decide) (fun q5 => ?_) (fun q5 => ?_)
      · replace F := F.1 q5
        refine x_iinc (v := (v4 + 1)) (lv2 := [(4, .int (v4 + 1)), (0, .ref v0), (1, .int v1), (2, .int v2), (3, .int v3), (5, .int v5), (6, .int v6), (7, .int v7), (8, .int v8)]) hM d_Mo_best_286 (j := 4) rfl rfl (Nat.le_of_ble_eq_true rfl) rfl ?_
        refine x_goto (tgt := 69) hM d_Mo_best_289 (by decide) ?_
        refine x_sub [1, 2, 3, 4, 0] rfl ?_
        exact F
      · replace F := F.2 q5
        refine x_goto (tgt := 283) hM d_Mo_best_257 (by decide) ?_
        refine x_iload hM d_Mo_best_283 4 rfl ?_
        exact x_ireturn hM d_Mo_best_285 rfl F
  · replace F := F.2 q39
    refine x_aload_n hM d_Mo_best_102 rfl 0 rfl ?_
    obtain ⟨c37, F⟩ := F
    obtain ⟨c38, F⟩ := F
    refine x_getr hG hM ck_Mo 14 (Nat.le_of_ble_eq_true rfl) rfl rfl w_911 rfl d_Mo_best_103 c37 c38 ?_
    refine x_bipush (v := 36) hM d_Mo_best_106 (by decide) ?_
    refine x_iload_n hM d_Mo_best_108 rfl 1 rfl ?_
    refine x_imul hM d_Mo_best_109 ?_
    refine x_iconst (v := 3) hM d_Mo_best_110 (by decide) ?_
    refine x_iload hM d_Mo_best_111 4 rfl ?_
    refine x_imul hM d_Mo_best_113 ?_
    refine x_iadd hM d_Mo_best_114 ?_
    refine x_iload hM d_Mo_best_115 8 rfl ?_
    refine x_iadd hM d_Mo_best_117 ?_
    obtain ⟨c35, F⟩ := F
    obtain ⟨c36, F⟩ := F
    refine x_iaload hG hM d_Mo_best_118 c35 c36 ?_
    refine x_istore (lv2 := [(9, .int (kI h (rf h v0 14) (Int32.toNatClampNeg (((36 * v1) + (3 * v4)) + v8)))), (0, .ref v0), (1, .int v1), (2, .int v2), (3, .int v3), (4, .int v4), (5, .int v5), (6, .int v6), (7, .int v7), (8, .int v8)]) hM d_Mo_best_119 (Nat.le_of_ble_eq_true rfl) rfl ?_
    refine x_iload hM d_Mo_best_121 0 rfl ?_
    refine x_iconst (v := (-1)) hM d_Mo_best_123 (by decide) ?_
    obtain ⟨S, F⟩ := F
    have JJ : ∀ (z7 : Int32) (ez7 : z7 = (if (kI h (rf h v0 14) (Int32.toNatClampNeg (((36 * v1) + (3 * v4)) + v8))) = (-1) then (-1) else (if v2 = 1 then (kI h (rf h v0 20) (Int32.toNatClampNeg (kI h (rf h v0 14) (Int32.toNatClampNeg (((36 * v1) + (3 * v4)) + v8))))) else (if v2 = 2 then (kI h (rf h v0 21) (Int32.toNatClampNeg (kI h (rf h v0 14) (Int32.toNatClampNeg (((36 * v1) + (3 * v4)) + v8))))) else (kI h (rf h v0 22) (Int32.toNatClampNeg (kI h (rf h v0 14) (Int32.toNatClampNeg (((36 * v1) + (3 * v4)) + v8))))))))), X G M Q 168 [(0, .ref v0), (1, .int v1), (2, .int v2), (3, .int v3), (4, .int v4), (5, .int v5), (6, .int v6), (7, .int v7), (8, .int v8)] [.int z7] h := by
      intro z7 ez7
      replace F := F _ ez7
      refine x_istore (lv2 := [(10, .int z7), (0, .ref v0), (1, .int v1), (2, .int v2), (3, .int v3), (4, .int v4), (5, .int v5), (6, .int v6), (7, .int v7), (8, .int v8)]) hM d_Mo_best_168 (Nat.le_of_ble_eq_true rfl) rfl ?_
      refine x_iload hM d_Mo_best_170 0 rfl ?_
      refine x_iconst (v := (-1)) hM d_Mo_best_172 (by decide) ?_
      have JJ : ∀ (z8 : Int32) (ez8 : z8 = (if z7 = (-1) then 0 else (if v3 ≤ z7 then 0 else 1))), X G M Q 187 [(0, .ref v0), (1, .int v1), (2, .int v2), (3, .int v3), (4, .int v4), (5, .int v5), (6, .int v6), (7, .int v7), (8, .int v8), (10, .int z7)] [.int z8] h := by
        intro z8 ez8
        replace F := F _ ez8
        refine x_istore (lv2 := [(11, .int z8), (0, .ref v0), (1, .int v1), (2, .int v2), (3, .int v3), (4, .int v4), (5, .int v5), (6, .int v6), (7, .int v7), (8, .int v8), (10, .int z7)]) hM d_Mo_best_187 (Nat.le_of_ble_eq_true rfl) rfl ?_
        refine x_iload hM d_Mo_best_189 6 rfl ?_
        have JJ : ∀ (z9 : Int32) (ez9 : z9 = (if v5 = 0 then (if z8 = 0 then 0 else 1) else 1)), X G M Q 204 [(0, .ref v0), (1, .int v1), (2, .int v2), (3, .int v3), (4, .int v4), (6, .int v6), (7, .int v7), (8, .int v8), (10, .int z7), (11, .int z8)] [.int z9] h := by
          intro z9 ez9
          replace F := F _ ez9
          refine x_istore (lv2 := [(5, .int z9), (0, .ref v0), (1, .int v1), (2, .int v2), (3, .int v3), (4, .int v4), (6, .int v6), (7, .int v7), (8, .int v8), (10, .int z7), (11, .int z8)]) hM d_Mo_best_204 (Nat.le_of_ble_eq_true rfl) rfl ?_
          refine x_iload hM d_Mo_best_206 6 rfl ?_
          have JJ : ∀ (z10 : Int32) (ez10 : z10 = (if v6 = 0 then 0 else (if z8 = 0 then 0 else 1))), X G M Q 221 [(0, .ref v0), (1, .int v1), (2, .int v2), (3, .int v3), (4, .int v4), (5, .int z9), (7, .int v7), (8, .int v8), (10, .int z7)] [.int z10] h := by
            intro z10 ez10
            replace F := F _ ez10
            refine x_istore (lv2 := [(6, .int z10), (0, .ref v0), (1, .int v1), (2, .int v2), (3, .int v3), (4, .int v4), (5, .int z9), (7, .int v7), (8, .int v8), (10, .int z7)]) hM d_Mo_best_221 (Nat.le_of_ble_eq_true rfl) rfl ?_
            refine x_iload hM d_Mo_best_223 7 rfl ?_
            have JJ : ∀ (z11 : Int32) (ez11 : z11 = (if v7 = 0 then 0 else (if z7 = (-1) then 0 else 1))), X G M Q 239 [(0, .ref v0), (1, .int v1), (2, .int v2), (3, .int v3), (4, .int v4), (5, .int z9), (6, .int z10), (8, .int v8)] [.int z11] h := by
              intro z11 ez11
              replace F := F _ ez11
              refine x_istore (lv2 := [(7, .int z11), (0, .ref v0), (1, .int v1), (2, .int v2), (3, .int v3), (4, .int v4), (5, .int z9), (6, .int z10), (8, .int v8)]) hM d_Mo_best_239 (Nat.le_of_ble_eq_true rfl) rfl ?_
              refine x_iinc (v := (v8 + 1)) (lv2 := [(8, .int (v8 + 1)), (7, .int z11), (0, .ref v0), (1, .int v1), (2, .int v2), (3, .int v3), (4, .int v4), (5, .int z9), (6, .int z10)]) hM d_Mo_best_241 (j := 8) rfl rfl (Nat.le_of_ble_eq_true rfl) rfl ?_
              refine x_goto (tgt := 90) hM d_Mo_best_244 (by decide) ?_
              refine x_sub [2, 3, 4, 5, 6, 7, 8, 1, 0] rfl ?_
              exact F
            refine x_if_eq (tgt := 238) hM d_Mo_best_225 (by decide) (fun q12 => ?_) (fun q12 => ?_)
            · refine x_iconst (v := 0) hM d_Mo_best_238 (by decide) ?_
              refine x_sub [1, 2, 3, 4, 5, 6, 0, 8] rfl ?_
              exact JJ _ (Eq.symm (if_pos q12))
            · refine x_iload hM d_Mo_best_228 9 rfl ?_
              refine x_iconst (v := (-1)) hM d_Mo_best_230 (by decide) ?_
              refine x_icmp_eq (tgt := 238) hM d_Mo_best_231 (by decide) (fun q13 => ?_) (fun q13 => ?_)
              · refine x_iconst (v := 0) hM d_Mo_best_238 (by decide) ?_
                refine x_sub [1, 2, 3, 4, 5, 6, 0, 8] rfl ?_
                exact JJ _ (Eq.symm (Eq.trans (if_neg q12) (if_pos q13)))
              · refine x_iconst (v := 1) hM d_Mo_best_234 (by decide) ?_
                refine x_goto (tgt := 239) hM d_Mo_best_235 (by decide) ?_
                refine x_sub [1, 2, 3, 4, 5, 6, 0, 8] rfl ?_
                exact JJ _ (Eq.symm (Eq.trans (if_neg q12) (if_neg q13)))
          refine x_if_eq (tgt := 220) hM d_Mo_best_208 (by decide) (fun q14 => ?_) (fun q14 => ?_)
          · refine x_iconst (v := 0) hM d_Mo_best_220 (by decide) ?_
            refine x_sub [1, 2, 3, 4, 5, 0, 7, 8, 9] rfl ?_
            exact JJ _ (Eq.symm (if_pos q14))
          · refine x_iload hM d_Mo_best_211 10 rfl ?_
            refine x_if_eq (tgt := 220) hM d_Mo_best_213 (by decide) (fun q15 => ?_) (fun q15 => ?_)
            · refine x_iconst (v := 0) hM d_Mo_best_220 (by decide) ?_
              refine x_sub [1, 2, 3, 4, 5, 0, 7, 8, 9] rfl ?_
              exact JJ _ (Eq.symm (Eq.trans (if_neg q14) (if_pos q15)))
            · refine x_iconst (v := 1) hM d_Mo_best_216 (by decide) ?_
              refine x_goto (tgt := 221) hM d_Mo_best_217 (by decide) ?_
              refine x_sub [1, 2, 3, 4, 5, 0, 7, 8, 9] rfl ?_
              exact JJ _ (Eq.symm (Eq.trans (if_neg q14) (if_neg q15)))
        refine x_if_ne (tgt := 199) hM d_Mo_best_191 (by decide) (fun q16 => ?_) (fun q16 => ?_)
        · refine x_iconst (v := 1) hM d_Mo_best_199 (by decide) ?_
          refine x_goto (tgt := 204) hM d_Mo_best_200 (by decide) ?_
          refine x_sub [1, 2, 3, 4, 5, 7, 8, 9, 10, 0] rfl ?_
          exact JJ _ (Eq.symm (if_neg q16))
        · refine x_iload hM d_Mo_best_194 0 rfl ?_
          refine x_if_eq (tgt := 203) hM d_Mo_best_196 (by decide) (fun q17 => ?_) (fun q17 => ?_)
          · refine x_iconst (v := 0) hM d_Mo_best_203 (by decide) ?_
            refine x_sub [1, 2, 3, 4, 5, 7, 8, 9, 10, 0] rfl ?_
            exact JJ _ (Eq.symm (Eq.trans (if_pos q16) (if_pos q17)))
          · refine x_iconst (v := 1) hM d_Mo_best_199 (by decide) ?_
            refine x_goto (tgt := 204) hM d_Mo_best_200 (by decide) ?_
            refine x_sub [1, 2, 3, 4, 5, 7, 8, 9, 10, 0] rfl ?_
            exact JJ _ (Eq.symm (Eq.trans (if_pos q16) (if_neg q17)))
      refine x_icmp_eq (tgt := 186) hM d_Mo_best_173 (by decide) (fun q18 => ?_) (fun q18 => ?_)
      · refine x_iconst (v := 0) hM d_Mo_best_186 (by decide) ?_
        refine x_sub [1, 2, 3, 4, 5, 6, 7, 8, 9, 0] rfl ?_
        exact JJ _ (Eq.symm (if_pos q18))
      · refine x_iload hM d_Mo_best_176 0 rfl ?_
        refine x_iload_n hM d_Mo_best_178 rfl 4 rfl ?_
        refine x_icmp_ge (tgt := 186) hM d_Mo_best_179 (by decide) (fun q19 => ?_) (fun q19 => ?_)
        · refine x_iconst (v := 0) hM d_Mo_best_186 (by decide) ?_
          refine x_sub [1, 2, 3, 4, 5, 6, 7, 8, 9, 0] rfl ?_
          exact JJ _ (Eq.symm (Eq.trans (if_neg q18) (if_pos q19)))
        · refine x_iconst (v := 1) hM d_Mo_best_182 (by decide) ?_
          refine x_goto (tgt := 187) hM d_Mo_best_183 (by decide) ?_
          refine x_sub [1, 2, 3, 4, 5, 6, 7, 8, 9, 0] rfl ?_
          exact JJ _ (Eq.symm (Eq.trans (if_neg q18) (if_neg q19)))
    refine x_icmp_ne (tgt := 131) hM d_Mo_best_124 (by decide) (fun q20 => ?_) (fun q20 => ?_)
    · replace S := S q20
      refine x_iload_n hM d_Mo_best_131 rfl 3 rfl ?_
      refine x_iconst (v := 1) hM d_Mo_best_132 (by decide) ?_
      refine x_icmp_ne (tgt := 146) hM d_Mo_best_133 (by decide) (fun q21 => ?_) (fun q21 => ?_)
      · replace S := S.2 q21
        refine x_iload_n hM d_Mo_best_146 rfl 3 rfl ?_
        refine x_iconst (v := 2) hM d_Mo_best_147 (by decide) ?_
        refine x_icmp_ne (tgt := 161) hM d_Mo_best_148 (by decide) (fun q22 => ?_) (fun q22 => ?_)
        · replace S := S.2 q22
          refine x_aload_n hM d_Mo_best_161 rfl 1 rfl ?_
          obtain ⟨c23, S⟩ := S
          obtain ⟨c24, S⟩ := S
          refine x_getr hG hM ck_Mo 22 (Nat.le_of_ble_eq_true rfl) rfl rfl w_919 rfl d_Mo_best_162 c23 c24 ?_
          refine x_iload hM d_Mo_best_165 0 rfl ?_
          obtain ⟨c25, S⟩ := S
          have c26 := S
          refine x_iaload hG hM d_Mo_best_167 c25 c26 ?_
          refine x_sub [1, 2, 3, 4, 5, 6, 7, 8, 9] rfl ?_
          exact JJ _ (Eq.symm (Eq.trans (if_neg q20) (Eq.trans (if_neg q21) (if_neg q22))))
        · replace S := S.1 q22
          refine x_aload_n hM d_Mo_best_151 rfl 1 rfl ?_
          obtain ⟨c27, S⟩ := S
          obtain ⟨c28, S⟩ := S
          refine x_getr hG hM ck_Mo 21 (Nat.le_of_ble_eq_true rfl) rfl rfl w_918 rfl d_Mo_best_152 c27 c28 ?_
          refine x_iload hM d_Mo_best_155 0 rfl ?_
          obtain ⟨c29, S⟩ := S
          have c30 := S
          refine x_iaload hG hM d_Mo_best_157 c29 c30 ?_
          refine x_goto (tgt := 168) hM d_Mo_best_158 (by decide) ?_
          refine x_sub [1, 2, 3, 4, 5, 6, 7, 8, 9] rfl ?_
          exact JJ _ (Eq.symm (Eq.trans (if_neg q20) (Eq.trans (if_neg q21) (if_pos q22))))
      · replace S := S.1 q21
        refine x_aload_n hM d_Mo_best_136 rfl 1 rfl ?_
        obtain ⟨c31, S⟩ := S
        obtain ⟨c32, S⟩ := S
        refine x_getr hG hM ck_Mo 20 (Nat.le_of_ble_eq_true rfl) rfl rfl w_917 rfl d_Mo_best_137 c31 c32 ?_
        refine x_iload hM d_Mo_best_140 0 rfl ?_
        obtain ⟨c33, S⟩ := S
        have c34 := S
        refine x_iaload hG hM d_Mo_best_142 c33 c34 ?_
        refine x_goto (tgt := 168) hM d_Mo_best_143 (by decide) ?_
        refine x_sub [1, 2, 3, 4, 5, 6, 7, 8, 9] rfl ?_
        exact JJ _ (Eq.symm (Eq.trans (if_neg q20) (if_pos q21)))
    · refine x_iconst (v := (-1)) hM d_Mo_best_127 (by decide) ?_
      refine x_goto (tgt := 168) hM d_Mo_best_128 (by decide) ?_
      refine x_sub [1, 2, 3, 4, 5, 6, 7, 8, 9] rfl ?_
      exact JJ _ (Eq.symm (if_pos q20))
set_option maxRecDepth 100000 in
set_option maxHeartbeats 4000000 in
theorem S_Mo_play_0 {G : Gc} {M : Mc} {Q : State → Prop} {K : Option Value → Hp → Prop} (hG : gok G) (hM : mok G M r_Mo_play Q K) (v0 : Nat) (v1 : Int32) (v2 : Int32) (h : Hp) (F : sem G r_Mo_isIn [.int v2, .int 0, .int 2] h (fun u2 h1 => ∃ x3 : Int32, u2 = some (.int x3) ∧ ((x3 = 0 → K (some (.int (-2))) h1) ∧ (¬ x3 = 0 → (kT h1 v0 = 12 ∧ sem G r_Mo_lay [.ref v0] h1 (fun u5 h4 => u5 = none ∧ (kT h4 v0 = 12 ∧ kR h4 v0 20 = some (rf h4 v0 20) ∧ (kT h4 v0 = 12 ∧ (kT h4 (rf h4 v0 20) = 50 ∧ vp_in (kI h4 v0 2) (kN h4 (rf h4 v0 20)) ∧ (sem G r_Mo_isIn [.int v1, .int 0, .int ((kI h4 (rf h4 v0 20) (Int32.toNatClampNeg (kI h4 v0 2))) - 1)] h4 (fun u7 h6 => ∃ x8 : Int32, u7 = some (.int x8) ∧ ((x8 = 0 → K (some (.int (-1))) h6) ∧ (¬ x8 = 0 → (kT h6 v0 = 12 ∧ X G M Q 48 [(0, .ref v0), (1, .int v1), (2, .int v2), (3, .int (kI h6 v0 2)), (4, .int 0), (5, .int 0)] [] h6)))))))))))))) : X G M Q 0 [(0, .ref v0), (1, .int v1), (2, .int v2)] [] h := by
  refine x_iload_n hM d_Mo_play_0 rfl 2 rfl ?_
  refine x_iconst (v := 0) hM d_Mo_play_1 (by decide) ?_
  refine x_iconst (v := 2) hM d_Mo_play_2 (by decide) ?_
  refine x_callS hG hM (r' := r_Mo_isIn) [.int v2, .int 0, .int 2] rfl yk_Mo_isIn ⟨Nat.le_of_ble_eq_true rfl, Nat.le_of_ble_eq_true rfl⟩ w_1017 w_1018 rfl rfl (Nat.le_of_ble_eq_true rfl) d_Mo_play_3 (sem_mono F ?_)
  intro u2 h1 F
  obtain ⟨x3, rfl, F⟩ := F
  refine x_if_ne (tgt := 12) hM d_Mo_play_6 (by decide) (fun q17 => ?_) (fun q17 => ?_)
  · replace F := F.2 q17
    refine x_aload_n hM d_Mo_play_12 rfl 0 rfl ?_
    obtain ⟨c16, F⟩ := F
    refine x_callV hG hM (r' := r_Mo_lay) (ci := 11) [] rfl rfl (Nat.le_of_ble_eq_true rfl) yk_Mo_lay ⟨Nat.le_of_ble_eq_true rfl, Nat.le_of_ble_eq_true rfl⟩ w_1112 w_1114 ws_Mo_lay rfl rfl (Nat.le_of_ble_eq_true rfl) d_Mo_play_13 c16 (sem_mono F ?_)
    intro u5 h4 F
    obtain ⟨rfl, F⟩ := F
    refine x_iload_n hM d_Mo_play_16 rfl 1 rfl ?_
    refine x_iconst (v := 0) hM d_Mo_play_17 (by decide) ?_
    refine x_aload_n hM d_Mo_play_18 rfl 0 rfl ?_
    obtain ⟨c14, F⟩ := F
    obtain ⟨c15, F⟩ := F
    refine x_getr hG hM ck_Mo 20 (Nat.le_of_ble_eq_true rfl) rfl rfl w_917 rfl d_Mo_play_19 c14 c15 ?_
    refine x_aload_n hM d_Mo_play_22 rfl 0 rfl ?_
    obtain ⟨c13, F⟩ := F
    refine x_geti hG hM ck_Mo 2 (Nat.le_of_ble_eq_true rfl) rfl rfl w_899 rfl d_Mo_play_23 c13 ?_
    obtain ⟨c11, F⟩ := F
    obtain ⟨c12, F⟩ := F
    refine x_iaload hG hM d_Mo_play_26 c11 c12 ?_
    refine x_iconst (v := 1) hM d_Mo_play_27 (by decide) ?_
    refine x_isub hM d_Mo_play_28 ?_
    refine x_callS hG hM (r' := r_Mo_isIn) [.int v1, .int 0, .int ((kI h4 (rf h4 v0 20) (Int32.toNatClampNeg (kI h4 v0 2))) - 1)] rfl yk_Mo_isIn ⟨Nat.le_of_ble_eq_true rfl, Nat.le_of_ble_eq_true rfl⟩ w_1017 w_1018 rfl rfl (Nat.le_of_ble_eq_true rfl) d_Mo_play_29 (sem_mono F ?_)
    intro u7 h6 F
    obtain ⟨x8, rfl, F⟩ := F
    refine x_if_ne (tgt := 37) hM d_Mo_play_32 (by decide) (fun q10 => ?_) (fun q10 => ?_)
    · replace F := F.2 q10
      refine x_aload_n hM d_Mo_play_37 rfl 0 rfl ?_
      obtain ⟨c9, F⟩ := F
      refine x_geti hG hM ck_Mo 2 (Nat.le_of_ble_eq_true rfl) rfl rfl w_899 rfl d_Mo_play_38 c9 ?_
      refine x_istore_n (lv2 := [(3, .int (kI h6 v0 2)), (0, .ref v0), (1, .int v1), (2, .int v2)]) hM d_Mo_play_41 rfl (Nat.le_of_ble_eq_true rfl) rfl ?_
      refine x_iconst (v := 0) hM d_Mo_play_42 (by decide) ?_
      refine x_istore (lv2 := [(4, .int 0), (3, .int (kI h6 v0 2)), (0, .ref v0), (1, .int v1), (2, .int v2)]) hM d_Mo_play_43 (Nat.le_of_ble_eq_true rfl) rfl ?_
      refine x_iconst (v := 0) hM d_Mo_play_45 (by decide) ?_
      refine x_istore (lv2 := [(5, .int 0), (4, .int 0), (3, .int (kI h6 v0 2)), (0, .ref v0), (1, .int v1), (2, .int v2)]) hM d_Mo_play_46 (Nat.le_of_ble_eq_true rfl) rfl ?_
      refine x_sub [3, 4, 5, 2, 1, 0] rfl ?_
      exact F
    · replace F := F.1 q10
      refine x_iconst (v := (-1)) hM d_Mo_play_35 (by decide) ?_
      exact x_ireturn hM d_Mo_play_36 rfl F
  · replace F := F.1 q17
    refine x_bipush (v := (-2)) hM d_Mo_play_9 (by decide) ?_
    exact x_ireturn hM d_Mo_play_11 rfl F
set_option maxRecDepth 100000 in
set_option maxHeartbeats 4000000 in
theorem S_Mo_play_48 {G : Gc} {M : Mc} {Q : State → Prop} {K : Option Value → Hp → Prop} (hG : gok G) (hM : mok G M r_Mo_play Q K) (v0 : Nat) (v1 : Int32) (v2 : Int32) (v3 : Int32) (v4 : Int32) (v5 : Int32) (h : Hp) (F : (v1 < v5 → (∀ z1 : Int32, z1 = (if v2 = 0 then (v4 / 3) else (if v2 = 1 then (v4 - v4 / 3 * 3) else v3)) → K (some (.int z1)) h)) ∧ (¬ v1 < v5 → X G M Q 57 [(0, .ref v0), (1, .int v1), (2, .int v2), (3, .int v3), (4, .int 0), (5, .int v5)] [] h)) : X G M Q 48 [(0, .ref v0), (1, .int v1), (2, .int v2), (3, .int v3), (4, .int v4), (5, .int v5)] [] h := by
  refine x_iload hM d_Mo_play_48 5 rfl ?_
  refine x_iload_n hM d_Mo_play_50 rfl 1 rfl ?_
  refine x_icmp_gt (tgt := 126) hM d_Mo_play_51 (by decide) (fun q4 => ?_) (fun q4 => ?_)
  · replace F := F.1 q4
    refine x_iload_n hM d_Mo_play_126 rfl 2 rfl ?_
    have JJ : ∀ (z1 : Int32) (ez1 : z1 = (if v2 = 0 then (v4 / 3) else (if v2 = 1 then (v4 - v4 / 3 * 3) else v3))), X G M Q 150 [] [.int z1] h := by
      intro z1 ez1
      replace F := F _ ez1
      exact x_ireturn hM d_Mo_play_150 rfl F
    refine x_if_ne (tgt := 137) hM d_Mo_play_127 (by decide) (fun q2 => ?_) (fun q2 => ?_)
    · refine x_iload_n hM d_Mo_play_137 rfl 2 rfl ?_
      refine x_iconst (v := 1) hM d_Mo_play_138 (by decide) ?_
      refine x_icmp_ne (tgt := 149) hM d_Mo_play_139 (by decide) (fun q3 => ?_) (fun q3 => ?_)
      · refine x_iload_n hM d_Mo_play_149 rfl 3 rfl ?_
        refine x_sub [] rfl ?_
        exact JJ _ (Eq.symm (Eq.trans (if_neg q2) (if_neg q3)))
      · refine x_iload hM d_Mo_play_142 4 rfl ?_
        refine x_iconst (v := 3) hM d_Mo_play_144 (by decide) ?_
        refine x_irem hM d_Mo_play_145 (by decide) ?_
        refine x_goto (tgt := 150) hM d_Mo_play_146 (by decide) ?_
        refine x_sub [] rfl ?_
        exact JJ _ (Eq.symm (Eq.trans (if_neg q2) (if_pos q3)))
    · refine x_iload hM d_Mo_play_130 4 rfl ?_
      refine x_iconst (v := 3) hM d_Mo_play_132 (by decide) ?_
      refine x_idiv hM d_Mo_play_133 (by decide) ?_
      refine x_goto (tgt := 150) hM d_Mo_play_134 (by decide) ?_
      refine x_sub [] rfl ?_
      exact JJ _ (Eq.symm (if_pos q2))
  · replace F := F.2 q4
    refine x_iconst (v := 0) hM d_Mo_play_54 (by decide) ?_
    refine x_istore (lv2 := [(4, .int 0), (0, .ref v0), (1, .int v1), (2, .int v2), (3, .int v3), (5, .int v5)]) hM d_Mo_play_55 (Nat.le_of_ble_eq_true rfl) rfl ?_
    refine x_sub [1, 2, 3, 4, 0, 5] rfl ?_
    exact F
set_option maxRecDepth 100000 in
set_option maxHeartbeats 4000000 in
theorem S_Mo_play_57 {G : Gc} {M : Mc} {Q : State → Prop} {K : Option Value → Hp → Prop} (hG : gok G) (hM : mok G M r_Mo_play Q K) (v0 : Nat) (v1 : Int32) (v2 : Int32) (v3 : Int32) (v4 : Int32) (v5 : Int32) (h : Hp) (F : kT h v0 = 12 ∧ kR h v0 14 = some (rf h v0 14) ∧ (kT h (rf h v0 14) = 50 ∧ vp_in ((36 * v3) + v4) (kN h (rf h v0 14)) ∧ (((kI h (rf h v0 14) (Int32.toNatClampNeg ((36 * v3) + v4))) = (-1) → X G M Q 57 [(0, .ref v0), (1, .int v1), (2, .int v2), (3, .int v3), (4, .int (v4 + 1)), (5, .int v5)] [] h) ∧ (¬ (kI h (rf h v0 14) (Int32.toNatClampNeg ((36 * v3) + v4))) = (-1) → (kT h v0 = 12 ∧ kR h v0 20 = some (rf h v0 20) ∧ (kT h v0 = 12 ∧ kR h v0 14 = some (rf h v0 14) ∧ (kT h (rf h v0 14) = 50 ∧ vp_in ((36 * v3) + v4) (kN h (rf h v0 14)) ∧ (kT h (rf h v0 20) = 50 ∧ vp_in (kI h (rf h v0 14) (Int32.toNatClampNeg ((36 * v3) + v4))) (kN h (rf h v0 20)) ∧ (kT h v0 = 12 ∧ kR h v0 20 = some (rf h v0 20) ∧ (kT h (rf h v0 20) = 50 ∧ vp_in v3 (kN h (rf h v0 20)) ∧ (((kI h (rf h v0 20) (Int32.toNatClampNeg (kI h (rf h v0 14) (Int32.toNatClampNeg ((36 * v3) + v4))))) = ((kI h (rf h v0 20) (Int32.toNatClampNeg v3)) - 1) → (kT h v0 = 12 ∧ kR h v0 14 = some (rf h v0 14) ∧ (kT h (rf h v0 14) = 50 ∧ vp_in ((36 * v3) + v4) (kN h (rf h v0 14)) ∧ X G M Q 48 [(0, .ref v0), (1, .int v1), (2, .int v2), (3, .int (kI h (rf h v0 14) (Int32.toNatClampNeg ((36 * v3) + v4)))), (4, .int v4), (5, .int (v5 + 1))] [] h))) ∧ (¬ (kI h (rf h v0 20) (Int32.toNatClampNeg (kI h (rf h v0 14) (Int32.toNatClampNeg ((36 * v3) + v4))))) = ((kI h (rf h v0 20) (Int32.toNatClampNeg v3)) - 1) → X G M Q 57 [(0, .ref v0), (1, .int v1), (2, .int v2), (3, .int v3), (4, .int (v4 + 1)), (5, .int v5)] [] h)))))))))))) : X G M Q 57 [(0, .ref v0), (1, .int v1), (2, .int v2), (3, .int v3), (4, .int v4), (5, .int v5)] [] h := by
  refine x_aload_n hM d_Mo_play_57 rfl 0 rfl ?_
  obtain ⟨c21, F⟩ := F
  obtain ⟨c22, F⟩ := F
  refine x_getr hG hM ck_Mo 14 (Nat.le_of_ble_eq_true rfl) rfl rfl w_911 rfl d_Mo_play_58 c21 c22 ?_
  refine x_bipush (v := 36) hM d_Mo_play_61 (by decide) ?_
  refine x_iload_n hM d_Mo_play_63 rfl 3 rfl ?_
  refine x_imul hM d_Mo_play_64 ?_
  refine x_iload hM d_Mo_play_65 4 rfl ?_
  refine x_iadd hM d_Mo_play_67 ?_
  obtain ⟨c19, F⟩ := F
  obtain ⟨c20, F⟩ := F
  refine x_iaload hG hM d_Mo_play_68 c19 c20 ?_
  refine x_iconst (v := (-1)) hM d_Mo_play_69 (by decide) ?_
  refine x_icmp_eq (tgt := 101) hM d_Mo_play_70 (by decide) (fun q18 => ?_) (fun q18 => ?_)
  · replace F := F.1 q18
    refine x_iinc (v := (v4 + 1)) (lv2 := [(4, .int (v4 + 1)), (0, .ref v0), (1, .int v1), (2, .int v2), (3, .int v3), (5, .int v5)]) hM d_Mo_play_101 (j := 4) rfl rfl (Nat.le_of_ble_eq_true rfl) rfl ?_
    refine x_goto (tgt := 57) hM d_Mo_play_104 (by decide) ?_
    refine x_sub [1, 2, 3, 4, 0, 5] rfl ?_
    exact F
  · replace F := F.2 q18
    refine x_aload_n hM d_Mo_play_73 rfl 0 rfl ?_
    obtain ⟨c16, F⟩ := F
    obtain ⟨c17, F⟩ := F
    refine x_getr hG hM ck_Mo 20 (Nat.le_of_ble_eq_true rfl) rfl rfl w_917 rfl d_Mo_play_74 c16 c17 ?_
    refine x_aload_n hM d_Mo_play_77 rfl 0 rfl ?_
    obtain ⟨c14, F⟩ := F
    obtain ⟨c15, F⟩ := F
    refine x_getr hG hM ck_Mo 14 (Nat.le_of_ble_eq_true rfl) rfl rfl w_911 rfl d_Mo_play_78 c14 c15 ?_
    refine x_bipush (v := 36) hM d_Mo_play_81 (by decide) ?_
    refine x_iload_n hM d_Mo_play_83 rfl 3 rfl ?_
    refine x_imul hM d_Mo_play_84 ?_
    refine x_iload hM d_Mo_play_85 4 rfl ?_
    refine x_iadd hM d_Mo_play_87 ?_
    obtain ⟨c12, F⟩ := F
    obtain ⟨c13, F⟩ := F
    refine x_iaload hG hM d_Mo_play_88 c12 c13 ?_
    obtain ⟨c10, F⟩ := F
    obtain ⟨c11, F⟩ := F
    refine x_iaload hG hM d_Mo_play_89 c10 c11 ?_
    refine x_aload_n hM d_Mo_play_90 rfl 0 rfl ?_
    obtain ⟨c8, F⟩ := F
    obtain ⟨c9, F⟩ := F
    refine x_getr hG hM ck_Mo 20 (Nat.le_of_ble_eq_true rfl) rfl rfl w_917 rfl d_Mo_play_91 c8 c9 ?_
    refine x_iload_n hM d_Mo_play_94 rfl 3 rfl ?_
    obtain ⟨c6, F⟩ := F
    obtain ⟨c7, F⟩ := F
    refine x_iaload hG hM d_Mo_play_95 c6 c7 ?_
    refine x_iconst (v := 1) hM d_Mo_play_96 (by decide) ?_
    refine x_isub hM d_Mo_play_97 ?_
    refine x_icmp_eq (tgt := 107) hM d_Mo_play_98 (by decide) (fun q5 => ?_) (fun q5 => ?_)
    · replace F := F.1 q5
      refine x_aload_n hM d_Mo_play_107 rfl 0 rfl ?_
      obtain ⟨c3, F⟩ := F
      obtain ⟨c4, F⟩ := F
      refine x_getr hG hM ck_Mo 14 (Nat.le_of_ble_eq_true rfl) rfl rfl w_911 rfl d_Mo_play_108 c3 c4 ?_
      refine x_bipush (v := 36) hM d_Mo_play_111 (by decide) ?_
      refine x_iload_n hM d_Mo_play_113 rfl 3 rfl ?_
      refine x_imul hM d_Mo_play_114 ?_
      refine x_iload hM d_Mo_play_115 4 rfl ?_
      refine x_iadd hM d_Mo_play_117 ?_
      obtain ⟨c1, F⟩ := F
      obtain ⟨c2, F⟩ := F
      refine x_iaload hG hM d_Mo_play_118 c1 c2 ?_
      refine x_istore_n (lv2 := [(3, .int (kI h (rf h v0 14) (Int32.toNatClampNeg ((36 * v3) + v4)))), (0, .ref v0), (1, .int v1), (2, .int v2), (4, .int v4), (5, .int v5)]) hM d_Mo_play_119 rfl (Nat.le_of_ble_eq_true rfl) rfl ?_
      refine x_iinc (v := (v5 + 1)) (lv2 := [(5, .int (v5 + 1)), (3, .int (kI h (rf h v0 14) (Int32.toNatClampNeg ((36 * v3) + v4)))), (0, .ref v0), (1, .int v1), (2, .int v2), (4, .int v4)]) hM d_Mo_play_120 (j := 5) rfl rfl (Nat.le_of_ble_eq_true rfl) rfl ?_
      refine x_goto (tgt := 48) hM d_Mo_play_123 (by decide) ?_
      refine x_sub [2, 3, 4, 1, 5, 0] rfl ?_
      exact F
    · replace F := F.2 q5
      refine x_iinc (v := (v4 + 1)) (lv2 := [(4, .int (v4 + 1)), (0, .ref v0), (1, .int v1), (2, .int v2), (3, .int v3), (5, .int v5)]) hM d_Mo_play_101 (j := 4) rfl rfl (Nat.le_of_ble_eq_true rfl) rfl ?_
      refine x_goto (tgt := 57) hM d_Mo_play_104 (by decide) ?_
      refine x_sub [1, 2, 3, 4, 0, 5] rfl ?_
      exact F
set_option maxRecDepth 100000 in
set_option maxHeartbeats 4000000 in
theorem S_Mo_plays_0 {G : Gc} {M : Mc} {Q : State → Prop} {K : Option Value → Hp → Prop} (hG : gok G) (hM : mok G M r_Mo_plays Q K) (v0 : Nat) (h : Hp) (F : kT h v0 = 12 ∧ sem G r_Mo_lay [.ref v0] h (fun u2 h1 => u2 = none ∧ (kT h1 v0 = 12 ∧ kR h1 v0 20 = some (rf h1 v0 20) ∧ (kT h1 v0 = 12 ∧ (kT h1 (rf h1 v0 20) = 50 ∧ vp_in (kI h1 v0 2) (kN h1 (rf h1 v0 20)) ∧ (((kI h1 (rf h1 v0 20) (Int32.toNatClampNeg (kI h1 v0 2))) = (-1) → K (some (.long 0)) h1) ∧ (¬ (kI h1 (rf h1 v0 20) (Int32.toNatClampNeg (kI h1 v0 2))) = (-1) → X G M Q 21 [(0, .ref v0), (1, .int 0)] [] h1))))))) : X G M Q 0 [(0, .ref v0)] [] h := by
  refine x_aload_n hM d_Mo_plays_0 rfl 0 rfl ?_
  obtain ⟨c9, F⟩ := F
  refine x_callV hG hM (r' := r_Mo_lay) (ci := 11) [] rfl rfl (Nat.le_of_ble_eq_true rfl) yk_Mo_lay ⟨Nat.le_of_ble_eq_true rfl, Nat.le_of_ble_eq_true rfl⟩ w_1112 w_1114 ws_Mo_lay rfl rfl (Nat.le_of_ble_eq_true rfl) d_Mo_plays_1 c9 (sem_mono F ?_)
  intro u2 h1 F
  obtain ⟨rfl, F⟩ := F
  refine x_aload_n hM d_Mo_plays_4 rfl 0 rfl ?_
  obtain ⟨c7, F⟩ := F
  obtain ⟨c8, F⟩ := F
  refine x_getr hG hM ck_Mo 20 (Nat.le_of_ble_eq_true rfl) rfl rfl w_917 rfl d_Mo_plays_5 c7 c8 ?_
  refine x_aload_n hM d_Mo_plays_8 rfl 0 rfl ?_
  obtain ⟨c6, F⟩ := F
  refine x_geti hG hM ck_Mo 2 (Nat.le_of_ble_eq_true rfl) rfl rfl w_899 rfl d_Mo_plays_9 c6 ?_
  obtain ⟨c4, F⟩ := F
  obtain ⟨c5, F⟩ := F
  refine x_iaload hG hM d_Mo_plays_12 c4 c5 ?_
  refine x_iconst (v := (-1)) hM d_Mo_plays_13 (by decide) ?_
  refine x_icmp_ne (tgt := 19) hM d_Mo_plays_14 (by decide) (fun q3 => ?_) (fun q3 => ?_)
  · replace F := F.2 q3
    refine x_iconst (v := 0) hM d_Mo_plays_19 (by decide) ?_
    refine x_istore_n (lv2 := [(1, .int 0), (0, .ref v0)]) hM d_Mo_plays_20 rfl (Nat.le_of_ble_eq_true rfl) rfl ?_
    refine x_sub [1, 0] rfl ?_
    exact F
  · replace F := F.1 q3
    refine x_lconst (v := 0) hM d_Mo_plays_17 (by decide) ?_
    exact x_lreturn hM d_Mo_plays_18 rfl F
set_option maxRecDepth 100000 in
set_option maxHeartbeats 4000000 in
theorem S_Mo_plays_21 {G : Gc} {M : Mc} {Q : State → Prop} {K : Option Value → Hp → Prop} (hG : gok G) (hM : mok G M r_Mo_plays Q K) (v0 : Nat) (v1 : Int32) (h : Hp) (F : kT h v0 = 12 ∧ (((kI h v0 13) ≤ v1 → X G M Q 59 [(0, .ref v0), (2, .int 1)] [] h) ∧ (¬ (kI h v0 13) ≤ v1 → (kT h v0 = 12 ∧ kR h v0 33 = some (rf h v0 33) ∧ (kT h v0 = 12 ∧ kR h v0 15 = some (rf h v0 15) ∧ (kT h (rf h v0 15) = 51 ∧ vp_in v1 (kN h (rf h v0 15)) ∧ (∀ z1 : Int64, z1 = (if (kI h (rf h v0 15) (Int32.toNatClampNeg v1)) = 0 then 0 else 1) → (kT h (rf h v0 33) = 52 ∧ vp_in v1 (kN h (rf h v0 33)) ∧ (∀ h2 : Hp, h2 = wL h (rf h v0 33) (Int32.toNatClampNeg v1) z1 → X G M Q 21 [(0, .ref v0), (1, .int (v1 + 1))] [] h2))))))))) : X G M Q 21 [(0, .ref v0), (1, .int v1)] [] h := by
  refine x_iload_n hM d_Mo_plays_21 rfl 1 rfl ?_
  refine x_aload_n hM d_Mo_plays_22 rfl 0 rfl ?_
  obtain ⟨c13, F⟩ := F
  refine x_geti hG hM ck_Mo 13 (Nat.le_of_ble_eq_true rfl) rfl rfl w_910 rfl d_Mo_plays_23 c13 ?_
  refine x_icmp_ge (tgt := 55) hM d_Mo_plays_26 (by decide) (fun q12 => ?_) (fun q12 => ?_)
  · replace F := F.1 q12
    refine x_iconst (v := 0) hM d_Mo_plays_55 (by decide) ?_
    refine x_istore_n (lv2 := [(1, .int 0), (0, .ref v0)]) hM d_Mo_plays_56 rfl (Nat.le_of_ble_eq_true rfl) rfl ?_
    refine x_iconst (v := 1) hM d_Mo_plays_57 (by decide) ?_
    refine x_istore_n (lv2 := [(2, .int 1), (1, .int 0), (0, .ref v0)]) hM d_Mo_plays_58 rfl (Nat.le_of_ble_eq_true rfl) rfl ?_
    refine x_sub [2, 0] rfl ?_
    exact F
  · replace F := F.2 q12
    refine x_aload_n hM d_Mo_plays_29 rfl 0 rfl ?_
    obtain ⟨c10, F⟩ := F
    obtain ⟨c11, F⟩ := F
    refine x_getr hG hM ck_Mo 33 (Nat.le_of_ble_eq_true rfl) rfl rfl w_930 rfl d_Mo_plays_30 c10 c11 ?_
    refine x_iload_n hM d_Mo_plays_33 rfl 1 rfl ?_
    refine x_aload_n hM d_Mo_plays_34 rfl 0 rfl ?_
    obtain ⟨c8, F⟩ := F
    obtain ⟨c9, F⟩ := F
    refine x_getr hG hM ck_Mo 15 (Nat.le_of_ble_eq_true rfl) rfl rfl w_912 rfl d_Mo_plays_35 c8 c9 ?_
    refine x_iload_n hM d_Mo_plays_38 rfl 1 rfl ?_
    obtain ⟨c6, F⟩ := F
    obtain ⟨c7, F⟩ := F
    refine x_zaload hG hM d_Mo_plays_39 c6 c7 ?_
    have JJ : ∀ (z1 : Int64) (ez1 : z1 = (if (kI h (rf h v0 15) (Int32.toNatClampNeg v1)) = 0 then 0 else 1)), X G M Q 48 [(0, .ref v0), (1, .int v1)] [.long z1, .int v1, .ref (rf h v0 33)] h := by
      intro z1 ez1
      replace F := F _ ez1
      obtain ⟨c3, F⟩ := F
      obtain ⟨c4, F⟩ := F
      replace F := F _ rfl
      refine x_lastore hG hM d_Mo_plays_48 c3 c4 ?_
      refine x_iinc (v := (v1 + 1)) (lv2 := [(1, .int (v1 + 1)), (0, .ref v0)]) hM d_Mo_plays_49 (j := 1) rfl rfl (Nat.le_of_ble_eq_true rfl) rfl ?_
      refine x_goto (tgt := 21) hM d_Mo_plays_52 (by decide) ?_
      refine x_sub [1, 0] rfl ?_
      exact F
    refine x_if_eq (tgt := 47) hM d_Mo_plays_40 (by decide) (fun q5 => ?_) (fun q5 => ?_)
    · refine x_lconst (v := 0) hM d_Mo_plays_47 (by decide) ?_
      exact JJ _ (Eq.symm (if_pos q5))
    · refine x_lconst (v := 1) hM d_Mo_plays_43 (by decide) ?_
      refine x_goto (tgt := 48) hM d_Mo_plays_44 (by decide) ?_
      exact JJ _ (Eq.symm (if_neg q5))
set_option maxRecDepth 100000 in
set_option maxHeartbeats 4000000 in
theorem S_Mo_plays_59 {G : Gc} {M : Mc} {Q : State → Prop} {K : Option Value → Hp → Prop} (hG : gok G) (hM : mok G M r_Mo_plays Q K) (v0 : Nat) (v2 : Int32) (h : Hp) (F : kT h v0 = 12 ∧ kR h v0 20 = some (rf h v0 20) ∧ (kT h v0 = 12 ∧ (kT h (rf h v0 20) = 50 ∧ vp_in (kI h v0 2) (kN h (rf h v0 20)) ∧ (((kI h (rf h v0 20) (Int32.toNatClampNeg (kI h v0 2))) < v2 → (kT h v0 = 12 ∧ kR h v0 33 = some (rf h v0 33) ∧ (kT h v0 = 12 ∧ (kT h (rf h v0 33) = 52 ∧ vp_in (kI h v0 2) (kN h (rf h v0 33)) ∧ K (some (.long (kL h (rf h v0 33) (Int32.toNatClampNeg (kI h v0 2))))) h)))) ∧ (¬ (kI h (rf h v0 20) (Int32.toNatClampNeg (kI h v0 2))) < v2 → X G M Q 76 [(0, .ref v0), (1, .int v2), (2, .int v2), (3, .int 0)] [] h))))) : X G M Q 59 [(0, .ref v0), (2, .int v2)] [] h := by
  refine x_iload_n hM d_Mo_plays_59 rfl 1 rfl ?_
  refine x_aload_n hM d_Mo_plays_60 rfl 0 rfl ?_
  obtain ⟨c10, F⟩ := F
  obtain ⟨c11, F⟩ := F
  refine x_getr hG hM ck_Mo 20 (Nat.le_of_ble_eq_true rfl) rfl rfl w_917 rfl d_Mo_plays_61 c10 c11 ?_
  refine x_aload_n hM d_Mo_plays_64 rfl 0 rfl ?_
  obtain ⟨c9, F⟩ := F
  refine x_geti hG hM ck_Mo 2 (Nat.le_of_ble_eq_true rfl) rfl rfl w_899 rfl d_Mo_plays_65 c9 ?_
  obtain ⟨c7, F⟩ := F
  obtain ⟨c8, F⟩ := F
  refine x_iaload hG hM d_Mo_plays_68 c7 c8 ?_
  refine x_icmp_gt (tgt := 179) hM d_Mo_plays_69 (by decide) (fun q6 => ?_) (fun q6 => ?_)
  · replace F := F.1 q6
    refine x_aload_n hM d_Mo_plays_179 rfl 0 rfl ?_
    obtain ⟨c4, F⟩ := F
    obtain ⟨c5, F⟩ := F
    refine x_getr hG hM ck_Mo 33 (Nat.le_of_ble_eq_true rfl) rfl rfl w_930 rfl d_Mo_plays_180 c4 c5 ?_
    refine x_aload_n hM d_Mo_plays_183 rfl 0 rfl ?_
    obtain ⟨c3, F⟩ := F
    refine x_geti hG hM ck_Mo 2 (Nat.le_of_ble_eq_true rfl) rfl rfl w_899 rfl d_Mo_plays_184 c3 ?_
    obtain ⟨c1, F⟩ := F
    obtain ⟨c2, F⟩ := F
    refine x_laload hG hM d_Mo_plays_187 c1 c2 ?_
    exact x_lreturn hM d_Mo_plays_188 rfl F
  · replace F := F.2 q6
    refine x_iload_n hM d_Mo_plays_72 rfl 1 rfl ?_
    refine x_istore_n (lv2 := [(1, .int v2), (0, .ref v0), (2, .int v2)]) hM d_Mo_plays_73 rfl (Nat.le_of_ble_eq_true rfl) rfl ?_
    refine x_iconst (v := 0) hM d_Mo_plays_74 (by decide) ?_
    refine x_istore_n (lv2 := [(3, .int 0), (1, .int v2), (0, .ref v0), (2, .int v2)]) hM d_Mo_plays_75 rfl (Nat.le_of_ble_eq_true rfl) rfl ?_
    refine x_sub [2, 1, 3, 0] rfl ?_
    exact F
set_option maxRecDepth 100000 in
set_option maxHeartbeats 4000000 in
theorem S_Mo_plays_76 {G : Gc} {M : Mc} {Q : State → Prop} {K : Option Value → Hp → Prop} (hG : gok G) (hM : mok G M r_Mo_plays Q K) (v0 : Nat) (v1 : Int32) (v2 : Int32) (v3 : Int32) (h : Hp) (F : kT h v0 = 12 ∧ (((kI h v0 13) ≤ v3 → X G M Q 59 [(0, .ref v0), (2, .int (v2 + 1))] [] h) ∧ (¬ (kI h v0 13) ≤ v3 → X G M Q 87 [(0, .ref v0), (1, .int v1), (2, .int v2), (3, .int v3), (4, .int 0)] [] h))) : X G M Q 76 [(0, .ref v0), (1, .int v1), (2, .int v2), (3, .int v3)] [] h := by
  refine x_iload_n hM d_Mo_plays_76 rfl 3 rfl ?_
  refine x_aload_n hM d_Mo_plays_77 rfl 0 rfl ?_
  obtain ⟨c2, F⟩ := F
  refine x_geti hG hM ck_Mo 13 (Nat.le_of_ble_eq_true rfl) rfl rfl w_910 rfl d_Mo_plays_78 c2 ?_
  refine x_icmp_ge (tgt := 173) hM d_Mo_plays_81 (by decide) (fun q1 => ?_) (fun q1 => ?_)
  · replace F := F.1 q1
    refine x_iinc (v := (v2 + 1)) (lv2 := [(2, .int (v2 + 1)), (0, .ref v0), (1, .int v1), (3, .int v3)]) hM d_Mo_plays_173 (j := 2) rfl rfl (Nat.le_of_ble_eq_true rfl) rfl ?_
    refine x_goto (tgt := 59) hM d_Mo_plays_176 (by decide) ?_
    refine x_sub [1, 0] rfl ?_
    exact F
  · replace F := F.2 q1
    refine x_iconst (v := 0) hM d_Mo_plays_84 (by decide) ?_
    refine x_istore (lv2 := [(4, .int 0), (0, .ref v0), (1, .int v1), (2, .int v2), (3, .int v3)]) hM d_Mo_plays_85 (Nat.le_of_ble_eq_true rfl) rfl ?_
    refine x_sub [1, 2, 3, 4, 0] rfl ?_
    exact F
set_option maxRecDepth 100000 in
set_option maxHeartbeats 4000000 in
theorem S_Mo_plays_87 {G : Gc} {M : Mc} {Q : State → Prop} {K : Option Value → Hp → Prop} (hG : gok G) (hM : mok G M r_Mo_plays Q K) (v0 : Nat) (v1 : Int32) (v2 : Int32) (v3 : Int32) (v4 : Int32) (h : Hp) (F : kT h v0 = 12 ∧ (((3 * (kI h v0 3)) ≤ v4 → X G M Q 76 [(0, .ref v0), (1, .int v1), (2, .int v2), (3, .int (v3 + 1))] [] h) ∧ (¬ (3 * (kI h v0 3)) ≤ v4 → (kT h v0 = 12 ∧ kR h v0 20 = some (rf h v0 20) ∧ (kT h (rf h v0 20) = 50 ∧ vp_in v3 (kN h (rf h v0 20)) ∧ (((kI h (rf h v0 20) (Int32.toNatClampNeg v3)) = v1 → (kT h v0 = 12 ∧ kR h v0 14 = some (rf h v0 14) ∧ (kT h (rf h v0 14) = 50 ∧ vp_in ((36 * v3) + v4) (kN h (rf h v0 14)) ∧ (kT h v0 = 12 ∧ kR h v0 33 = some (rf h v0 33) ∧ (kT h (rf h v0 33) = 52 ∧ vp_in v3 (kN h (rf h v0 33)) ∧ ((¬ (kI h (rf h v0 14) (Int32.toNatClampNeg ((36 * v3) + v4))) = (-1) → (kT h v0 = 12 ∧ kR h v0 20 = some (rf h v0 20) ∧ kT h (rf h v0 20) = 50 ∧ vp_in (kI h (rf h v0 14) (Int32.toNatClampNeg ((36 * v3) + v4))) (kN h (rf h v0 20)) ∧ ((kI h (rf h v0 20) (Int32.toNatClampNeg (kI h (rf h v0 14) (Int32.toNatClampNeg ((36 * v3) + v4))))) = (v1 - 1) → (kT h v0 = 12 ∧ kR h v0 33 = some (rf h v0 33) ∧ kT h (rf h v0 33) = 52 ∧ vp_in (kI h (rf h v0 14) (Int32.toNatClampNeg ((36 * v3) + v4))) (kN h (rf h v0 33)))))) ∧ (∀ z1 : Int64, z1 = (if (kI h (rf h v0 14) (Int32.toNatClampNeg ((36 * v3) + v4))) = (-1) then 0 else (if (kI h (rf h v0 20) (Int32.toNatClampNeg (kI h (rf h v0 14) (Int32.toNatClampNeg ((36 * v3) + v4))))) = (v1 - 1) then (kL h (rf h v0 33) (Int32.toNatClampNeg (kI h (rf h v0 14) (Int32.toNatClampNeg ((36 * v3) + v4))))) else 0)) → (kT h (rf h v0 33) = 52 ∧ vp_in v3 (kN h (rf h v0 33)) ∧ (∀ h2 : Hp, h2 = wL h (rf h v0 33) (Int32.toNatClampNeg v3) ((kL h (rf h v0 33) (Int32.toNatClampNeg v3)) + z1) → X G M Q 87 [(0, .ref v0), (1, .int v1), (2, .int v2), (3, .int v3), (4, .int (v4 + 1))] [] h2))))))))) ∧ (¬ (kI h (rf h v0 20) (Int32.toNatClampNeg v3)) = v1 → X G M Q 76 [(0, .ref v0), (1, .int v1), (2, .int v2), (3, .int (v3 + 1))] [] h))))))) : X G M Q 87 [(0, .ref v0), (1, .int v1), (2, .int v2), (3, .int v3), (4, .int v4)] [] h := by
  refine x_iload hM d_Mo_plays_87 4 rfl ?_
  refine x_iconst (v := 3) hM d_Mo_plays_89 (by decide) ?_
  refine x_aload_n hM d_Mo_plays_90 rfl 0 rfl ?_
  obtain ⟨c29, F⟩ := F
  refine x_geti hG hM ck_Mo 3 (Nat.le_of_ble_eq_true rfl) rfl rfl w_900 rfl d_Mo_plays_91 c29 ?_
  refine x_imul hM d_Mo_plays_94 ?_
  refine x_icmp_ge (tgt := 167) hM d_Mo_plays_95 (by decide) (fun q28 => ?_) (fun q28 => ?_)
  · replace F := F.1 q28
    refine x_iinc (v := (v3 + 1)) (lv2 := [(3, .int (v3 + 1)), (0, .ref v0), (1, .int v1), (2, .int v2), (4, .int v4)]) hM d_Mo_plays_167 (j := 3) rfl rfl (Nat.le_of_ble_eq_true rfl) rfl ?_
    refine x_goto (tgt := 76) hM d_Mo_plays_170 (by decide) ?_
    refine x_sub [1, 2, 3, 0] rfl ?_
    exact F
  · replace F := F.2 q28
    refine x_aload_n hM d_Mo_plays_98 rfl 0 rfl ?_
    obtain ⟨c26, F⟩ := F
    obtain ⟨c27, F⟩ := F
    refine x_getr hG hM ck_Mo 20 (Nat.le_of_ble_eq_true rfl) rfl rfl w_917 rfl d_Mo_plays_99 c26 c27 ?_
    refine x_iload_n hM d_Mo_plays_102 rfl 3 rfl ?_
    obtain ⟨c24, F⟩ := F
    obtain ⟨c25, F⟩ := F
    refine x_iaload hG hM d_Mo_plays_103 c24 c25 ?_
    refine x_iload_n hM d_Mo_plays_104 rfl 1 rfl ?_
    refine x_icmp_ne (tgt := 167) hM d_Mo_plays_105 (by decide) (fun q23 => ?_) (fun q23 => ?_)
    · replace F := F.2 q23
      refine x_iinc (v := (v3 + 1)) (lv2 := [(3, .int (v3 + 1)), (0, .ref v0), (1, .int v1), (2, .int v2), (4, .int v4)]) hM d_Mo_plays_167 (j := 3) rfl rfl (Nat.le_of_ble_eq_true rfl) rfl ?_
      refine x_goto (tgt := 76) hM d_Mo_plays_170 (by decide) ?_
      refine x_sub [1, 2, 3, 0] rfl ?_
      exact F
    · replace F := F.1 q23
      refine x_aload_n hM d_Mo_plays_108 rfl 0 rfl ?_
      obtain ⟨c21, F⟩ := F
      obtain ⟨c22, F⟩ := F
      refine x_getr hG hM ck_Mo 14 (Nat.le_of_ble_eq_true rfl) rfl rfl w_911 rfl d_Mo_plays_109 c21 c22 ?_
      refine x_bipush (v := 36) hM d_Mo_plays_112 (by decide) ?_
      refine x_iload_n hM d_Mo_plays_114 rfl 3 rfl ?_
      refine x_imul hM d_Mo_plays_115 ?_
      refine x_iload hM d_Mo_plays_116 4 rfl ?_
      refine x_iadd hM d_Mo_plays_118 ?_
      obtain ⟨c19, F⟩ := F
      obtain ⟨c20, F⟩ := F
      refine x_iaload hG hM d_Mo_plays_119 c19 c20 ?_
      refine x_istore (lv2 := [(5, .int (kI h (rf h v0 14) (Int32.toNatClampNeg ((36 * v3) + v4)))), (0, .ref v0), (1, .int v1), (2, .int v2), (3, .int v3), (4, .int v4)]) hM d_Mo_plays_120 (Nat.le_of_ble_eq_true rfl) rfl ?_
      refine x_aload_n hM d_Mo_plays_122 rfl 1 rfl ?_
      obtain ⟨c17, F⟩ := F
      obtain ⟨c18, F⟩ := F
      refine x_getr hG hM ck_Mo 33 (Nat.le_of_ble_eq_true rfl) rfl rfl w_930 rfl d_Mo_plays_123 c17 c18 ?_
      refine x_iload_n hM d_Mo_plays_126 rfl 4 rfl ?_
      refine x_dup2 hM d_Mo_plays_127 rfl rfl ?_
      obtain ⟨c15, F⟩ := F
      obtain ⟨c16, F⟩ := F
      refine x_laload hG hM d_Mo_plays_128 c15 c16 ?_
      refine x_iload hM d_Mo_plays_129 0 rfl ?_
      refine x_iconst (v := (-1)) hM d_Mo_plays_131 (by decide) ?_
      obtain ⟨S, F⟩ := F
      have JJ : ∀ (z1 : Int64) (ez1 : z1 = (if (kI h (rf h v0 14) (Int32.toNatClampNeg ((36 * v3) + v4))) = (-1) then 0 else (if (kI h (rf h v0 20) (Int32.toNatClampNeg (kI h (rf h v0 14) (Int32.toNatClampNeg ((36 * v3) + v4))))) = (v1 - 1) then (kL h (rf h v0 33) (Int32.toNatClampNeg (kI h (rf h v0 14) (Int32.toNatClampNeg ((36 * v3) + v4))))) else 0))), X G M Q 159 [(0, .ref v0), (1, .int v1), (2, .int v2), (3, .int v3), (4, .int v4)] [.long z1, .long (kL h (rf h v0 33) (Int32.toNatClampNeg v3)), .int v3, .ref (rf h v0 33)] h := by
        intro z1 ez1
        replace F := F _ ez1
        refine x_ladd hM d_Mo_plays_159 ?_
        obtain ⟨c3, F⟩ := F
        obtain ⟨c4, F⟩ := F
        replace F := F _ rfl
        refine x_lastore hG hM d_Mo_plays_160 c3 c4 ?_
        refine x_iinc (v := (v4 + 1)) (lv2 := [(4, .int (v4 + 1)), (0, .ref v0), (1, .int v1), (2, .int v2), (3, .int v3)]) hM d_Mo_plays_161 (j := 4) rfl rfl (Nat.le_of_ble_eq_true rfl) rfl ?_
        refine x_goto (tgt := 87) hM d_Mo_plays_164 (by decide) ?_
        refine x_sub [1, 2, 3, 4, 0] rfl ?_
        exact F
      refine x_icmp_eq (tgt := 158) hM d_Mo_plays_132 (by decide) (fun q5 => ?_) (fun q5 => ?_)
      · refine x_lconst (v := 0) hM d_Mo_plays_158 (by decide) ?_
        refine x_sub [1, 2, 3, 4, 5] rfl ?_
        exact JJ _ (Eq.symm (if_pos q5))
      · replace S := S q5
        refine x_aload_n hM d_Mo_plays_135 rfl 1 rfl ?_
        obtain ⟨c6, S⟩ := S
        obtain ⟨c7, S⟩ := S
        refine x_getr hG hM ck_Mo 20 (Nat.le_of_ble_eq_true rfl) rfl rfl w_917 rfl d_Mo_plays_136 c6 c7 ?_
        refine x_iload hM d_Mo_plays_139 0 rfl ?_
        obtain ⟨c8, S⟩ := S
        obtain ⟨c9, S⟩ := S
        refine x_iaload hG hM d_Mo_plays_141 c8 c9 ?_
        refine x_iload_n hM d_Mo_plays_142 rfl 2 rfl ?_
        refine x_iconst (v := 1) hM d_Mo_plays_143 (by decide) ?_
        refine x_isub hM d_Mo_plays_144 ?_
        refine x_icmp_ne (tgt := 158) hM d_Mo_plays_145 (by decide) (fun q10 => ?_) (fun q10 => ?_)
        · refine x_lconst (v := 0) hM d_Mo_plays_158 (by decide) ?_
          refine x_sub [1, 2, 3, 4, 5] rfl ?_
          exact JJ _ (Eq.symm (Eq.trans (if_neg q5) (if_neg q10)))
        · replace S := S q10
          refine x_aload_n hM d_Mo_plays_148 rfl 1 rfl ?_
          obtain ⟨c11, S⟩ := S
          obtain ⟨c12, S⟩ := S
          refine x_getr hG hM ck_Mo 33 (Nat.le_of_ble_eq_true rfl) rfl rfl w_930 rfl d_Mo_plays_149 c11 c12 ?_
          refine x_iload hM d_Mo_plays_152 0 rfl ?_
          obtain ⟨c13, S⟩ := S
          have c14 := S
          refine x_laload hG hM d_Mo_plays_154 c13 c14 ?_
          refine x_goto (tgt := 159) hM d_Mo_plays_155 (by decide) ?_
          refine x_sub [1, 2, 3, 4, 5] rfl ?_
          exact JJ _ (Eq.symm (Eq.trans (if_neg q5) (if_pos q10)))
set_option maxRecDepth 100000 in
set_option maxHeartbeats 4000000 in
theorem S_Mo_needed_0 {G : Gc} {M : Mc} {Q : State → Prop} {K : Option Value → Hp → Prop} (hG : gok G) (hM : mok G M r_Mo_needed Q K) (v0 : Nat) (h : Hp) (F : kT h v0 = 12 ∧ sem G r_Mo_lay [.ref v0] h (fun u2 h1 => u2 = none ∧ X G M Q 8 [(0, .ref v0), (1, .int 0), (2, .int 0)] [] h1)) : X G M Q 0 [(0, .ref v0)] [] h := by
  refine x_aload_n hM d_Mo_needed_0 rfl 0 rfl ?_
  obtain ⟨c3, F⟩ := F
  refine x_callV hG hM (r' := r_Mo_lay) (ci := 11) [] rfl rfl (Nat.le_of_ble_eq_true rfl) yk_Mo_lay ⟨Nat.le_of_ble_eq_true rfl, Nat.le_of_ble_eq_true rfl⟩ w_1112 w_1114 ws_Mo_lay rfl rfl (Nat.le_of_ble_eq_true rfl) d_Mo_needed_1 c3 (sem_mono F ?_)
  intro u2 h1 F
  obtain ⟨rfl, F⟩ := F
  refine x_iconst (v := 0) hM d_Mo_needed_4 (by decide) ?_
  refine x_istore_n (lv2 := [(1, .int 0), (0, .ref v0)]) hM d_Mo_needed_5 rfl (Nat.le_of_ble_eq_true rfl) rfl ?_
  refine x_iconst (v := 0) hM d_Mo_needed_6 (by decide) ?_
  refine x_istore_n (lv2 := [(2, .int 0), (1, .int 0), (0, .ref v0)]) hM d_Mo_needed_7 rfl (Nat.le_of_ble_eq_true rfl) rfl ?_
  refine x_sub [2, 1, 0] rfl ?_
  exact F
set_option maxRecDepth 100000 in
set_option maxHeartbeats 4000000 in
theorem S_Mo_needed_8 {G : Gc} {M : Mc} {Q : State → Prop} {K : Option Value → Hp → Prop} (hG : gok G) (hM : mok G M r_Mo_needed Q K) (v0 : Nat) (v1 : Int32) (v2 : Int32) (h : Hp) (F : kT h v0 = 12 ∧ (((kI h v0 3) ≤ v2 → K (some (.int v1)) h) ∧ (¬ (kI h v0 3) ≤ v2 → (kT h v0 = 12 ∧ sem G r_Mo_isReachedWithout [.ref v0, .int v2, .int (-1), .int 0] h (fun u2 h1 => ∃ x3 : Int32, u2 = some (.int x3) ∧ (∀ z4 : Int32, z4 = (if x3 = 0 then (1 <<< (v2 &&& 31)) else 0) → X G M Q 8 [(0, .ref v0), (1, .int (v1 ||| z4)), (2, .int (v2 + 1))] [] h1)))))) : X G M Q 8 [(0, .ref v0), (1, .int v1), (2, .int v2)] [] h := by
  refine x_iload_n hM d_Mo_needed_8 rfl 2 rfl ?_
  refine x_aload_n hM d_Mo_needed_9 rfl 0 rfl ?_
  obtain ⟨c8, F⟩ := F
  refine x_geti hG hM ck_Mo 3 (Nat.le_of_ble_eq_true rfl) rfl rfl w_900 rfl d_Mo_needed_10 c8 ?_
  refine x_icmp_ge (tgt := 42) hM d_Mo_needed_13 (by decide) (fun q7 => ?_) (fun q7 => ?_)
  · replace F := F.1 q7
    refine x_iload_n hM d_Mo_needed_42 rfl 1 rfl ?_
    exact x_ireturn hM d_Mo_needed_43 rfl F
  · replace F := F.2 q7
    refine x_iload_n hM d_Mo_needed_16 rfl 1 rfl ?_
    refine x_aload_n hM d_Mo_needed_17 rfl 0 rfl ?_
    refine x_iload_n hM d_Mo_needed_18 rfl 2 rfl ?_
    refine x_iconst (v := (-1)) hM d_Mo_needed_19 (by decide) ?_
    refine x_iconst (v := 0) hM d_Mo_needed_20 (by decide) ?_
    obtain ⟨c6, F⟩ := F
    refine x_callV hG hM (r' := r_Mo_isReachedWithout) (ci := 11) [.int v2, .int (-1), .int 0] rfl rfl (Nat.le_of_ble_eq_true rfl) yk_Mo_isReachedWithout ⟨Nat.le_of_ble_eq_true rfl, Nat.le_of_ble_eq_true rfl⟩ w_1181 w_1183 ws_Mo_isReachedWithout rfl rfl (Nat.le_of_ble_eq_true rfl) d_Mo_needed_21 c6 (sem_mono F ?_)
    intro u2 h1 F
    obtain ⟨x3, rfl, F⟩ := F
    have JJ : ∀ (z4 : Int32) (ez4 : z4 = (if x3 = 0 then (1 <<< (v2 &&& 31)) else 0)), X G M Q 34 [(0, .ref v0), (2, .int v2)] [.int z4, .int v1] h1 := by
      intro z4 ez4
      replace F := F _ ez4
      refine x_ior hM d_Mo_needed_34 ?_
      refine x_istore_n (lv2 := [(1, .int (v1 ||| z4)), (0, .ref v0), (2, .int v2)]) hM d_Mo_needed_35 rfl (Nat.le_of_ble_eq_true rfl) rfl ?_
      refine x_iinc (v := (v2 + 1)) (lv2 := [(2, .int (v2 + 1)), (1, .int (v1 ||| z4)), (0, .ref v0)]) hM d_Mo_needed_36 (j := 2) rfl rfl (Nat.le_of_ble_eq_true rfl) rfl ?_
      refine x_goto (tgt := 8) hM d_Mo_needed_39 (by decide) ?_
      refine x_sub [2, 1, 0] rfl ?_
      exact F
    refine x_if_eq (tgt := 31) hM d_Mo_needed_24 (by decide) (fun q5 => ?_) (fun q5 => ?_)
    · refine x_iconst (v := 1) hM d_Mo_needed_31 (by decide) ?_
      refine x_iload_n hM d_Mo_needed_32 rfl 2 rfl ?_
      refine x_ishl hM d_Mo_needed_33 ?_
      refine x_sub [0, 2] rfl ?_
      exact JJ _ (Eq.symm (if_pos q5))
    · refine x_iconst (v := 0) hM d_Mo_needed_27 (by decide) ?_
      refine x_goto (tgt := 34) hM d_Mo_needed_28 (by decide) ?_
      refine x_sub [0, 2] rfl ?_
      exact JJ _ (Eq.symm (if_neg q5))
set_option maxRecDepth 100000 in
set_option maxHeartbeats 4000000 in
theorem S_Mo_isReachedWithout_0 {G : Gc} {M : Mc} {Q : State → Prop} {K : Option Value → Hp → Prop} (hG : gok G) (hM : mok G M r_Mo_isReachedWithout Q K) (v0 : Nat) (v1 : Int32) (v2 : Int32) (v3 : Int32) (h : Hp) (F : X G M Q 3 [(0, .ref v0), (1, .int v1), (2, .int v2), (3, .int v3), (4, .int 0)] [] h) : X G M Q 0 [(0, .ref v0), (1, .int v1), (2, .int v2), (3, .int v3)] [] h := by
  refine x_iconst (v := 0) hM d_Mo_isReachedWithout_0 (by decide) ?_
  refine x_istore (lv2 := [(4, .int 0), (0, .ref v0), (1, .int v1), (2, .int v2), (3, .int v3)]) hM d_Mo_isReachedWithout_1 (Nat.le_of_ble_eq_true rfl) rfl ?_
  refine x_sub [1, 2, 3, 4, 0] rfl ?_
  exact F
set_option maxRecDepth 100000 in
set_option maxHeartbeats 4000000 in
theorem S_Mo_isReachedWithout_3 {G : Gc} {M : Mc} {Q : State → Prop} {K : Option Value → Hp → Prop} (hG : gok G) (hM : mok G M r_Mo_isReachedWithout Q K) (v0 : Nat) (v1 : Int32) (v2 : Int32) (v3 : Int32) (v4 : Int32) (h : Hp) (F : kT h v0 = 12 ∧ (((kI h v0 13) ≤ v4 → (kT h v0 = 12 ∧ (kT h v0 = 12 ∧ sem G r_Mo_isBarred [.ref v0, .int (kI h v0 2), .int v2, .int v3] h (fun u2 h1 => ∃ x3 : Int32, u2 = some (.int x3) ∧ ((x3 = 0 → (kT h1 v0 = 12 ∧ kR h1 v0 34 = some (rf h1 v0 34) ∧ (kT h1 v0 = 12 ∧ (kT h1 (rf h1 v0 34) = 51 ∧ vp_in (kI h1 v0 2) (kN h1 (rf h1 v0 34)) ∧ (∀ h4 : Hp, h4 = wI h1 (rf h1 v0 34) (Int32.toNatClampNeg (kI h1 v0 2)) 1 → (kT h4 v0 = 12 ∧ kR h4 v0 23 = some (rf h4 v0 23) ∧ (kT h4 v0 = 12 ∧ (kT h4 (rf h4 v0 23) = 50 ∧ vp_in 0 (kN h4 (rf h4 v0 23)) ∧ (∀ h5 : Hp, h5 = wI h4 (rf h4 v0 23) (Int32.toNatClampNeg 0) (kI h4 v0 2) → X G M Q 68 [(0, .ref v0), (1, .int v1), (2, .int v2), (3, .int v3), (4, .int 1), (5, .int 0)] [] h5))))))))) ∧ (¬ x3 = 0 → X G M Q 68 [(0, .ref v0), (1, .int v1), (2, .int v2), (3, .int v3), (4, .int 0), (5, .int 0)] [] h1)))))) ∧ (¬ (kI h v0 13) ≤ v4 → (kT h v0 = 12 ∧ kR h v0 34 = some (rf h v0 34) ∧ (kT h (rf h v0 34) = 51 ∧ vp_in v4 (kN h (rf h v0 34)) ∧ (∀ h19 : Hp, h19 = wI h (rf h v0 34) (Int32.toNatClampNeg v4) 0 → X G M Q 3 [(0, .ref v0), (1, .int v1), (2, .int v2), (3, .int v3), (4, .int (v4 + 1))] [] h19)))))) : X G M Q 3 [(0, .ref v0), (1, .int v1), (2, .int v2), (3, .int v3), (4, .int v4)] [] h := by
  refine x_iload hM d_Mo_isReachedWithout_3 4 rfl ?_
  refine x_aload_n hM d_Mo_isReachedWithout_5 rfl 0 rfl ?_
  obtain ⟨c25, F⟩ := F
  refine x_geti hG hM ck_Mo 13 (Nat.le_of_ble_eq_true rfl) rfl rfl w_910 rfl d_Mo_isReachedWithout_6 c25 ?_
  refine x_icmp_ge (tgt := 26) hM d_Mo_isReachedWithout_9 (by decide) (fun q24 => ?_) (fun q24 => ?_)
  · replace F := F.1 q24
    refine x_iconst (v := 0) hM d_Mo_isReachedWithout_26 (by decide) ?_
    refine x_istore (lv2 := [(4, .int 0), (0, .ref v0), (1, .int v1), (2, .int v2), (3, .int v3)]) hM d_Mo_isReachedWithout_27 (Nat.le_of_ble_eq_true rfl) rfl ?_
    refine x_aload_n hM d_Mo_isReachedWithout_29 rfl 1 rfl ?_
    refine x_aload_n hM d_Mo_isReachedWithout_30 rfl 1 rfl ?_
    obtain ⟨c18, F⟩ := F
    refine x_geti hG hM ck_Mo 2 (Nat.le_of_ble_eq_true rfl) rfl rfl w_899 rfl d_Mo_isReachedWithout_31 c18 ?_
    refine x_iload_n hM d_Mo_isReachedWithout_34 rfl 3 rfl ?_
    refine x_iload_n hM d_Mo_isReachedWithout_35 rfl 4 rfl ?_
    obtain ⟨c17, F⟩ := F
    refine x_callV hG hM (r' := r_Mo_isBarred) (ci := 11) [.int (kI h v0 2), .int v2, .int v3] rfl rfl (Nat.le_of_ble_eq_true rfl) yk_Mo_isBarred ⟨Nat.le_of_ble_eq_true rfl, Nat.le_of_ble_eq_true rfl⟩ w_1185 w_1187 ws_Mo_isBarred rfl rfl (Nat.le_of_ble_eq_true rfl) d_Mo_isReachedWithout_36 c17 (sem_mono F ?_)
    intro u2 h1 F
    obtain ⟨x3, rfl, F⟩ := F
    refine x_if_ne (tgt := 65) hM d_Mo_isReachedWithout_39 (by decide) (fun q16 => ?_) (fun q16 => ?_)
    · replace F := F.2 q16
      refine x_iconst (v := 0) hM d_Mo_isReachedWithout_65 (by decide) ?_
      refine x_istore (lv2 := [(5, .int 0), (4, .int 0), (0, .ref v0), (1, .int v1), (2, .int v2), (3, .int v3)]) hM d_Mo_isReachedWithout_66 (Nat.le_of_ble_eq_true rfl) rfl ?_
      refine x_sub [2, 3, 4, 5, 1, 0] rfl ?_
      exact F
    · replace F := F.1 q16
      refine x_aload_n hM d_Mo_isReachedWithout_42 rfl 1 rfl ?_
      obtain ⟨c14, F⟩ := F
      obtain ⟨c15, F⟩ := F
      refine x_getr hG hM ck_Mo 34 (Nat.le_of_ble_eq_true rfl) rfl rfl w_931 rfl d_Mo_isReachedWithout_43 c14 c15 ?_
      refine x_aload_n hM d_Mo_isReachedWithout_46 rfl 1 rfl ?_
      obtain ⟨c13, F⟩ := F
      refine x_geti hG hM ck_Mo 2 (Nat.le_of_ble_eq_true rfl) rfl rfl w_899 rfl d_Mo_isReachedWithout_47 c13 ?_
      refine x_iconst (v := 1) hM d_Mo_isReachedWithout_50 (by decide) ?_
      obtain ⟨c11, F⟩ := F
      obtain ⟨c12, F⟩ := F
      replace F := F _ rfl
      refine x_zastore hG hM d_Mo_isReachedWithout_51 c11 c12 (Or.inr rfl) ?_
      refine x_aload_n hM d_Mo_isReachedWithout_52 rfl 1 rfl ?_
      obtain ⟨c9, F⟩ := F
      obtain ⟨c10, F⟩ := F
      refine x_getr hG hM ck_Mo 23 (Nat.le_of_ble_eq_true rfl) rfl rfl w_920 rfl d_Mo_isReachedWithout_53 c9 c10 ?_
      refine x_iconst (v := 0) hM d_Mo_isReachedWithout_56 (by decide) ?_
      refine x_aload_n hM d_Mo_isReachedWithout_57 rfl 1 rfl ?_
      obtain ⟨c8, F⟩ := F
      refine x_geti hG hM ck_Mo 2 (Nat.le_of_ble_eq_true rfl) rfl rfl w_899 rfl d_Mo_isReachedWithout_58 c8 ?_
      obtain ⟨c6, F⟩ := F
      obtain ⟨c7, F⟩ := F
      replace F := F _ rfl
      refine x_iastore hG hM d_Mo_isReachedWithout_61 c6 c7 ?_
      refine x_iconst (v := 1) hM d_Mo_isReachedWithout_62 (by decide) ?_
      refine x_istore (lv2 := [(4, .int 1), (0, .ref v0), (1, .int v1), (2, .int v2), (3, .int v3)]) hM d_Mo_isReachedWithout_63 (Nat.le_of_ble_eq_true rfl) rfl ?_
      refine x_iconst (v := 0) hM d_Mo_isReachedWithout_65 (by decide) ?_
      refine x_istore (lv2 := [(5, .int 0), (4, .int 1), (0, .ref v0), (1, .int v1), (2, .int v2), (3, .int v3)]) hM d_Mo_isReachedWithout_66 (Nat.le_of_ble_eq_true rfl) rfl ?_
      refine x_sub [2, 3, 4, 5, 1, 0] rfl ?_
      exact F
  · replace F := F.2 q24
    refine x_aload_n hM d_Mo_isReachedWithout_12 rfl 0 rfl ?_
    obtain ⟨c22, F⟩ := F
    obtain ⟨c23, F⟩ := F
    refine x_getr hG hM ck_Mo 34 (Nat.le_of_ble_eq_true rfl) rfl rfl w_931 rfl d_Mo_isReachedWithout_13 c22 c23 ?_
    refine x_iload hM d_Mo_isReachedWithout_16 4 rfl ?_
    refine x_iconst (v := 0) hM d_Mo_isReachedWithout_18 (by decide) ?_
    obtain ⟨c20, F⟩ := F
    obtain ⟨c21, F⟩ := F
    replace F := F _ rfl
    refine x_zastore hG hM d_Mo_isReachedWithout_19 c20 c21 (Or.inl rfl) ?_
    refine x_iinc (v := (v4 + 1)) (lv2 := [(4, .int (v4 + 1)), (0, .ref v0), (1, .int v1), (2, .int v2), (3, .int v3)]) hM d_Mo_isReachedWithout_20 (j := 4) rfl rfl (Nat.le_of_ble_eq_true rfl) rfl ?_
    refine x_goto (tgt := 3) hM d_Mo_isReachedWithout_23 (by decide) ?_
    refine x_sub [1, 2, 3, 4, 0] rfl ?_
    exact F
set_option maxRecDepth 100000 in
set_option maxHeartbeats 4000000 in
theorem S_Mo_isReachedWithout_68 {G : Gc} {M : Mc} {Q : State → Prop} {K : Option Value → Hp → Prop} (hG : gok G) (hM : mok G M r_Mo_isReachedWithout Q K) (v0 : Nat) (v1 : Int32) (v2 : Int32) (v3 : Int32) (v4 : Int32) (v5 : Int32) (h : Hp) (F : (v4 ≤ v5 → K (some (.int 0)) h) ∧ (¬ v4 ≤ v5 → (kT h v0 = 12 ∧ kR h v0 23 = some (rf h v0 23) ∧ (kT h (rf h v0 23) = 50 ∧ vp_in v5 (kN h (rf h v0 23)) ∧ (kT h v0 = 12 ∧ kR h v0 15 = some (rf h v0 15) ∧ (kT h (rf h v0 15) = 51 ∧ vp_in (kI h (rf h v0 23) (Int32.toNatClampNeg v5)) (kN h (rf h v0 15)) ∧ (((kI h (rf h v0 15) (Int32.toNatClampNeg (kI h (rf h v0 23) (Int32.toNatClampNeg v5)))) = 0 → X G M Q 99 [(0, .ref v0), (1, .int v1), (2, .int v2), (3, .int v3), (4, .int v4), (5, .int v5), (6, .int (kI h (rf h v0 23) (Int32.toNatClampNeg v5))), (7, .int 0)] [] h) ∧ (¬ (kI h (rf h v0 15) (Int32.toNatClampNeg (kI h (rf h v0 23) (Int32.toNatClampNeg v5)))) = 0 → K (some (.int 1)) h)))))))) : X G M Q 68 [(0, .ref v0), (1, .int v1), (2, .int v2), (3, .int v3), (4, .int v4), (5, .int v5)] [] h := by
  refine x_iload hM d_Mo_isReachedWithout_68 5 rfl ?_
  refine x_iload hM d_Mo_isReachedWithout_70 4 rfl ?_
  refine x_icmp_ge (tgt := 192) hM d_Mo_isReachedWithout_72 (by decide) (fun q10 => ?_) (fun q10 => ?_)
  · replace F := F.1 q10
    refine x_iconst (v := 0) hM d_Mo_isReachedWithout_192 (by decide) ?_
    exact x_zreturn hM d_Mo_isReachedWithout_193 rfl (Or.inl rfl) F
  · replace F := F.2 q10
    refine x_aload_n hM d_Mo_isReachedWithout_75 rfl 0 rfl ?_
    obtain ⟨c8, F⟩ := F
    obtain ⟨c9, F⟩ := F
    refine x_getr hG hM ck_Mo 23 (Nat.le_of_ble_eq_true rfl) rfl rfl w_920 rfl d_Mo_isReachedWithout_76 c8 c9 ?_
    refine x_iload hM d_Mo_isReachedWithout_79 5 rfl ?_
    obtain ⟨c6, F⟩ := F
    obtain ⟨c7, F⟩ := F
    refine x_iaload hG hM d_Mo_isReachedWithout_81 c6 c7 ?_
    refine x_istore (lv2 := [(6, .int (kI h (rf h v0 23) (Int32.toNatClampNeg v5))), (0, .ref v0), (1, .int v1), (2, .int v2), (3, .int v3), (4, .int v4), (5, .int v5)]) hM d_Mo_isReachedWithout_82 (Nat.le_of_ble_eq_true rfl) rfl ?_
    refine x_aload_n hM d_Mo_isReachedWithout_84 rfl 1 rfl ?_
    obtain ⟨c4, F⟩ := F
    obtain ⟨c5, F⟩ := F
    refine x_getr hG hM ck_Mo 15 (Nat.le_of_ble_eq_true rfl) rfl rfl w_912 rfl d_Mo_isReachedWithout_85 c4 c5 ?_
    refine x_iload hM d_Mo_isReachedWithout_88 0 rfl ?_
    obtain ⟨c2, F⟩ := F
    obtain ⟨c3, F⟩ := F
    refine x_zaload hG hM d_Mo_isReachedWithout_90 c2 c3 ?_
    refine x_if_eq (tgt := 96) hM d_Mo_isReachedWithout_91 (by decide) (fun q1 => ?_) (fun q1 => ?_)
    · replace F := F.1 q1
      refine x_iconst (v := 0) hM d_Mo_isReachedWithout_96 (by decide) ?_
      refine x_istore (lv2 := [(7, .int 0), (6, .int (kI h (rf h v0 23) (Int32.toNatClampNeg v5))), (0, .ref v0), (1, .int v1), (2, .int v2), (3, .int v3), (4, .int v4), (5, .int v5)]) hM d_Mo_isReachedWithout_97 (Nat.le_of_ble_eq_true rfl) rfl ?_
      refine x_sub [2, 3, 4, 5, 6, 7, 1, 0] rfl ?_
      exact F
    · replace F := F.2 q1
      refine x_iconst (v := 1) hM d_Mo_isReachedWithout_94 (by decide) ?_
      exact x_zreturn hM d_Mo_isReachedWithout_95 rfl (Or.inr rfl) F
set_option maxRecDepth 100000 in
set_option maxHeartbeats 4000000 in
theorem S_Mo_isReachedWithout_99 {G : Gc} {M : Mc} {Q : State → Prop} {K : Option Value → Hp → Prop} (hG : gok G) (hM : mok G M r_Mo_isReachedWithout Q K) (v0 : Nat) (v1 : Int32) (v2 : Int32) (v3 : Int32) (v4 : Int32) (v5 : Int32) (v6 : Int32) (v7 : Int32) (h : Hp) (F : kT h v0 = 12 ∧ (((3 * (kI h v0 3)) ≤ v7 → X G M Q 68 [(0, .ref v0), (1, .int v1), (2, .int v2), (3, .int v3), (4, .int v4), (5, .int (v5 + 1))] [] h) ∧ (¬ (3 * (kI h v0 3)) ≤ v7 → (kT h v0 = 12 ∧ kR h v0 14 = some (rf h v0 14) ∧ (kT h (rf h v0 14) = 50 ∧ vp_in ((36 * v6) + v7) (kN h (rf h v0 14)) ∧ (((kI h (rf h v0 14) (Int32.toNatClampNeg ((36 * v6) + v7))) = (-1) → X G M Q 99 [(0, .ref v0), (1, .int v1), (2, .int v2), (3, .int v3), (4, .int v4), (5, .int v5), (6, .int v6), (7, .int (v7 + 1))] [] h) ∧ (¬ (kI h (rf h v0 14) (Int32.toNatClampNeg ((36 * v6) + v7))) = (-1) → (((v7 / 3) = v1 → X G M Q 99 [(0, .ref v0), (1, .int v1), (2, .int v2), (3, .int v3), (4, .int v4), (5, .int v5), (6, .int v6), (7, .int (v7 + 1))] [] h) ∧ (¬ (v7 / 3) = v1 → (kT h v0 = 12 ∧ kR h v0 34 = some (rf h v0 34) ∧ (kT h (rf h v0 34) = 51 ∧ vp_in (kI h (rf h v0 14) (Int32.toNatClampNeg ((36 * v6) + v7))) (kN h (rf h v0 34)) ∧ (((kI h (rf h v0 34) (Int32.toNatClampNeg (kI h (rf h v0 14) (Int32.toNatClampNeg ((36 * v6) + v7))))) = 0 → (kT h v0 = 12 ∧ sem G r_Mo_isBarred [.ref v0, .int (kI h (rf h v0 14) (Int32.toNatClampNeg ((36 * v6) + v7))), .int v2, .int v3] h (fun u2 h1 => ∃ x3 : Int32, u2 = some (.int x3) ∧ ((x3 = 0 → (kT h1 v0 = 12 ∧ kR h1 v0 34 = some (rf h1 v0 34) ∧ (kT h1 (rf h1 v0 34) = 51 ∧ vp_in (kI h (rf h v0 14) (Int32.toNatClampNeg ((36 * v6) + v7))) (kN h1 (rf h1 v0 34)) ∧ (∀ h4 : Hp, h4 = wI h1 (rf h1 v0 34) (Int32.toNatClampNeg (kI h (rf h v0 14) (Int32.toNatClampNeg ((36 * v6) + v7)))) 1 → (kT h4 v0 = 12 ∧ kR h4 v0 23 = some (rf h4 v0 23) ∧ (kT h4 (rf h4 v0 23) = 50 ∧ vp_in v4 (kN h4 (rf h4 v0 23)) ∧ (∀ h5 : Hp, h5 = wI h4 (rf h4 v0 23) (Int32.toNatClampNeg v4) (kI h (rf h v0 14) (Int32.toNatClampNeg ((36 * v6) + v7))) → X G M Q 99 [(0, .ref v0), (1, .int v1), (2, .int v2), (3, .int v3), (4, .int (v4 + 1)), (5, .int v5), (6, .int v6), (7, .int (v7 + 1))] [] h5))))))) ∧ (¬ x3 = 0 → X G M Q 99 [(0, .ref v0), (1, .int v1), (2, .int v2), (3, .int v3), (4, .int v4), (5, .int v5), (6, .int v6), (7, .int (v7 + 1))] [] h1))))) ∧ (¬ (kI h (rf h v0 34) (Int32.toNatClampNeg (kI h (rf h v0 14) (Int32.toNatClampNeg ((36 * v6) + v7))))) = 0 → X G M Q 99 [(0, .ref v0), (1, .int v1), (2, .int v2), (3, .int v3), (4, .int v4), (5, .int v5), (6, .int v6), (7, .int (v7 + 1))] [] h))))))))))))) : X G M Q 99 [(0, .ref v0), (1, .int v1), (2, .int v2), (3, .int v3), (4, .int v4), (5, .int v5), (6, .int v6), (7, .int v7)] [] h := by
  refine x_iload hM d_Mo_isReachedWithout_99 7 rfl ?_
  refine x_iconst (v := 3) hM d_Mo_isReachedWithout_101 (by decide) ?_
  refine x_aload_n hM d_Mo_isReachedWithout_102 rfl 0 rfl ?_
  obtain ⟨c28, F⟩ := F
  refine x_geti hG hM ck_Mo 3 (Nat.le_of_ble_eq_true rfl) rfl rfl w_900 rfl d_Mo_isReachedWithout_103 c28 ?_
  refine x_imul hM d_Mo_isReachedWithout_106 ?_
  refine x_icmp_ge (tgt := 186) hM d_Mo_isReachedWithout_107 (by decide) (fun q27 => ?_) (fun q27 => ?_)
  · replace F := F.1 q27
    refine x_iinc (v := (v5 + 1)) (lv2 := [(5, .int (v5 + 1)), (0, .ref v0), (1, .int v1), (2, .int v2), (3, .int v3), (4, .int v4), (6, .int v6), (7, .int v7)]) hM d_Mo_isReachedWithout_186 (j := 5) rfl rfl (Nat.le_of_ble_eq_true rfl) rfl ?_
    refine x_goto (tgt := 68) hM d_Mo_isReachedWithout_189 (by decide) ?_
    refine x_sub [1, 2, 3, 4, 5, 0] rfl ?_
    exact F
  · replace F := F.2 q27
    refine x_aload_n hM d_Mo_isReachedWithout_110 rfl 0 rfl ?_
    obtain ⟨c25, F⟩ := F
    obtain ⟨c26, F⟩ := F
    refine x_getr hG hM ck_Mo 14 (Nat.le_of_ble_eq_true rfl) rfl rfl w_911 rfl d_Mo_isReachedWithout_111 c25 c26 ?_
    refine x_bipush (v := 36) hM d_Mo_isReachedWithout_114 (by decide) ?_
    refine x_iload hM d_Mo_isReachedWithout_116 6 rfl ?_
    refine x_imul hM d_Mo_isReachedWithout_118 ?_
    refine x_iload hM d_Mo_isReachedWithout_119 7 rfl ?_
    refine x_iadd hM d_Mo_isReachedWithout_121 ?_
    obtain ⟨c23, F⟩ := F
    obtain ⟨c24, F⟩ := F
    refine x_iaload hG hM d_Mo_isReachedWithout_122 c23 c24 ?_
    refine x_istore (lv2 := [(8, .int (kI h (rf h v0 14) (Int32.toNatClampNeg ((36 * v6) + v7)))), (0, .ref v0), (1, .int v1), (2, .int v2), (3, .int v3), (4, .int v4), (5, .int v5), (6, .int v6), (7, .int v7)]) hM d_Mo_isReachedWithout_123 (Nat.le_of_ble_eq_true rfl) rfl ?_
    refine x_iload hM d_Mo_isReachedWithout_125 0 rfl ?_
    refine x_iconst (v := (-1)) hM d_Mo_isReachedWithout_127 (by decide) ?_
    refine x_icmp_eq (tgt := 180) hM d_Mo_isReachedWithout_128 (by decide) (fun q22 => ?_) (fun q22 => ?_)
    · replace F := F.1 q22
      refine x_iinc (v := (v7 + 1)) (lv2 := [(7, .int (v7 + 1)), (8, .int (kI h (rf h v0 14) (Int32.toNatClampNeg ((36 * v6) + v7)))), (0, .ref v0), (1, .int v1), (2, .int v2), (3, .int v3), (4, .int v4), (5, .int v5), (6, .int v6)]) hM d_Mo_isReachedWithout_180 (j := 8) rfl rfl (Nat.le_of_ble_eq_true rfl) rfl ?_
      refine x_goto (tgt := 99) hM d_Mo_isReachedWithout_183 (by decide) ?_
      refine x_sub [2, 3, 4, 5, 6, 7, 8, 0] rfl ?_
      exact F
    · replace F := F.2 q22
      refine x_iload hM d_Mo_isReachedWithout_131 8 rfl ?_
      refine x_iconst (v := 3) hM d_Mo_isReachedWithout_133 (by decide) ?_
      refine x_idiv hM d_Mo_isReachedWithout_134 (by decide) ?_
      refine x_iload_n hM d_Mo_isReachedWithout_135 rfl 2 rfl ?_
      refine x_icmp_eq (tgt := 180) hM d_Mo_isReachedWithout_136 (by decide) (fun q21 => ?_) (fun q21 => ?_)
      · replace F := F.1 q21
        refine x_iinc (v := (v7 + 1)) (lv2 := [(7, .int (v7 + 1)), (8, .int (kI h (rf h v0 14) (Int32.toNatClampNeg ((36 * v6) + v7)))), (0, .ref v0), (1, .int v1), (2, .int v2), (3, .int v3), (4, .int v4), (5, .int v5), (6, .int v6)]) hM d_Mo_isReachedWithout_180 (j := 8) rfl rfl (Nat.le_of_ble_eq_true rfl) rfl ?_
        refine x_goto (tgt := 99) hM d_Mo_isReachedWithout_183 (by decide) ?_
        refine x_sub [2, 3, 4, 5, 6, 7, 8, 0] rfl ?_
        exact F
      · replace F := F.2 q21
        refine x_aload_n hM d_Mo_isReachedWithout_139 rfl 1 rfl ?_
        obtain ⟨c19, F⟩ := F
        obtain ⟨c20, F⟩ := F
        refine x_getr hG hM ck_Mo 34 (Nat.le_of_ble_eq_true rfl) rfl rfl w_931 rfl d_Mo_isReachedWithout_140 c19 c20 ?_
        refine x_iload hM d_Mo_isReachedWithout_143 0 rfl ?_
        obtain ⟨c17, F⟩ := F
        obtain ⟨c18, F⟩ := F
        refine x_zaload hG hM d_Mo_isReachedWithout_145 c17 c18 ?_
        refine x_if_ne (tgt := 180) hM d_Mo_isReachedWithout_146 (by decide) (fun q16 => ?_) (fun q16 => ?_)
        · replace F := F.2 q16
          refine x_iinc (v := (v7 + 1)) (lv2 := [(7, .int (v7 + 1)), (8, .int (kI h (rf h v0 14) (Int32.toNatClampNeg ((36 * v6) + v7)))), (0, .ref v0), (1, .int v1), (2, .int v2), (3, .int v3), (4, .int v4), (5, .int v5), (6, .int v6)]) hM d_Mo_isReachedWithout_180 (j := 8) rfl rfl (Nat.le_of_ble_eq_true rfl) rfl ?_
          refine x_goto (tgt := 99) hM d_Mo_isReachedWithout_183 (by decide) ?_
          refine x_sub [2, 3, 4, 5, 6, 7, 8, 0] rfl ?_
          exact F
        · replace F := F.1 q16
          refine x_aload_n hM d_Mo_isReachedWithout_149 rfl 1 rfl ?_
          refine x_iload hM d_Mo_isReachedWithout_150 0 rfl ?_
          refine x_iload_n hM d_Mo_isReachedWithout_152 rfl 3 rfl ?_
          refine x_iload_n hM d_Mo_isReachedWithout_153 rfl 4 rfl ?_
          obtain ⟨c15, F⟩ := F
          refine x_callV hG hM (r' := r_Mo_isBarred) (ci := 11) [.int (kI h (rf h v0 14) (Int32.toNatClampNeg ((36 * v6) + v7))), .int v2, .int v3] rfl rfl (Nat.le_of_ble_eq_true rfl) yk_Mo_isBarred ⟨Nat.le_of_ble_eq_true rfl, Nat.le_of_ble_eq_true rfl⟩ w_1185 w_1187 ws_Mo_isBarred rfl rfl (Nat.le_of_ble_eq_true rfl) d_Mo_isReachedWithout_154 c15 (sem_mono F ?_)
          intro u2 h1 F
          obtain ⟨x3, rfl, F⟩ := F
          refine x_if_ne (tgt := 180) hM d_Mo_isReachedWithout_157 (by decide) (fun q14 => ?_) (fun q14 => ?_)
          · replace F := F.2 q14
            refine x_iinc (v := (v7 + 1)) (lv2 := [(7, .int (v7 + 1)), (8, .int (kI h (rf h v0 14) (Int32.toNatClampNeg ((36 * v6) + v7)))), (0, .ref v0), (1, .int v1), (2, .int v2), (3, .int v3), (4, .int v4), (5, .int v5), (6, .int v6)]) hM d_Mo_isReachedWithout_180 (j := 8) rfl rfl (Nat.le_of_ble_eq_true rfl) rfl ?_
            refine x_goto (tgt := 99) hM d_Mo_isReachedWithout_183 (by decide) ?_
            refine x_sub [2, 3, 4, 5, 6, 7, 8, 0] rfl ?_
            exact F
          · replace F := F.1 q14
            refine x_aload_n hM d_Mo_isReachedWithout_160 rfl 1 rfl ?_
            obtain ⟨c12, F⟩ := F
            obtain ⟨c13, F⟩ := F
            refine x_getr hG hM ck_Mo 34 (Nat.le_of_ble_eq_true rfl) rfl rfl w_931 rfl d_Mo_isReachedWithout_161 c12 c13 ?_
            refine x_iload hM d_Mo_isReachedWithout_164 0 rfl ?_
            refine x_iconst (v := 1) hM d_Mo_isReachedWithout_166 (by decide) ?_
            obtain ⟨c10, F⟩ := F
            obtain ⟨c11, F⟩ := F
            replace F := F _ rfl
            refine x_zastore hG hM d_Mo_isReachedWithout_167 c10 c11 (Or.inr rfl) ?_
            refine x_aload_n hM d_Mo_isReachedWithout_168 rfl 1 rfl ?_
            obtain ⟨c8, F⟩ := F
            obtain ⟨c9, F⟩ := F
            refine x_getr hG hM ck_Mo 23 (Nat.le_of_ble_eq_true rfl) rfl rfl w_920 rfl d_Mo_isReachedWithout_169 c8 c9 ?_
            refine x_iload hM d_Mo_isReachedWithout_172 5 rfl ?_
            refine x_iload hM d_Mo_isReachedWithout_174 0 rfl ?_
            obtain ⟨c6, F⟩ := F
            obtain ⟨c7, F⟩ := F
            replace F := F _ rfl
            refine x_iastore hG hM d_Mo_isReachedWithout_176 c6 c7 ?_
            refine x_iinc (v := (v4 + 1)) (lv2 := [(4, .int (v4 + 1)), (8, .int (kI h (rf h v0 14) (Int32.toNatClampNeg ((36 * v6) + v7)))), (0, .ref v0), (1, .int v1), (2, .int v2), (3, .int v3), (5, .int v5), (6, .int v6), (7, .int v7)]) hM d_Mo_isReachedWithout_177 (j := 5) rfl rfl (Nat.le_of_ble_eq_true rfl) rfl ?_
            refine x_iinc (v := (v7 + 1)) (lv2 := [(7, .int (v7 + 1)), (4, .int (v4 + 1)), (8, .int (kI h (rf h v0 14) (Int32.toNatClampNeg ((36 * v6) + v7)))), (0, .ref v0), (1, .int v1), (2, .int v2), (3, .int v3), (5, .int v5), (6, .int v6)]) hM d_Mo_isReachedWithout_180 (j := 8) rfl rfl (Nat.le_of_ble_eq_true rfl) rfl ?_
            refine x_goto (tgt := 99) hM d_Mo_isReachedWithout_183 (by decide) ?_
            refine x_sub [3, 4, 5, 6, 1, 7, 8, 0] rfl ?_
            exact F
set_option maxRecDepth 100000 in
set_option maxHeartbeats 4000000 in
theorem S_Mo_isBarred_0 {G : Gc} {M : Mc} {Q : State → Prop} {K : Option Value → Hp → Prop} (hG : gok G) (hM : mok G M r_Mo_isBarred Q K) (v0 : Nat) (v1 : Int32) (v2 : Int32) (v3 : Int32) (h : Hp) (F : (v2 = (-1) → K (some (.int 0)) h) ∧ (¬ v2 = (-1) → (kT h v0 = 12 ∧ sem G r_Mo_open [.ref v0, .int v1] h (fun u2 h1 => u2 = none ∧ (kT h1 v0 = 12 ∧ kR h1 v0 10 = some (rf h1 v0 10) ∧ (kT h1 (rf h1 v0 10) = 50 ∧ vp_in v2 (kN h1 (rf h1 v0 10)) ∧ (∀ z3 : Int32, z3 = (if (kI h1 (rf h1 v0 10) (Int32.toNatClampNeg v2)) = v3 then 1 else 0) → (nb z3 ∧ K (some (.int z3)) h1)))))))) : X G M Q 0 [(0, .ref v0), (1, .int v1), (2, .int v2), (3, .int v3)] [] h := by
  refine x_iload_n hM d_Mo_isBarred_0 rfl 2 rfl ?_
  refine x_iconst (v := (-1)) hM d_Mo_isBarred_1 (by decide) ?_
  refine x_icmp_ne (tgt := 7) hM d_Mo_isBarred_2 (by decide) (fun q10 => ?_) (fun q10 => ?_)
  · replace F := F.2 q10
    refine x_aload_n hM d_Mo_isBarred_7 rfl 0 rfl ?_
    refine x_iload_n hM d_Mo_isBarred_8 rfl 1 rfl ?_
    obtain ⟨c9, F⟩ := F
    refine x_callV hG hM (r' := r_Mo_open) (ci := 11) [.int v1] rfl rfl (Nat.le_of_ble_eq_true rfl) yk_Mo_open ⟨Nat.le_of_ble_eq_true rfl, Nat.le_of_ble_eq_true rfl⟩ w_1092 w_1094 ws_Mo_open rfl rfl (Nat.le_of_ble_eq_true rfl) d_Mo_isBarred_9 c9 (sem_mono F ?_)
    intro u2 h1 F
    obtain ⟨rfl, F⟩ := F
    refine x_aload_n hM d_Mo_isBarred_12 rfl 0 rfl ?_
    obtain ⟨c7, F⟩ := F
    obtain ⟨c8, F⟩ := F
    refine x_getr hG hM ck_Mo 10 (Nat.le_of_ble_eq_true rfl) rfl rfl w_907 rfl d_Mo_isBarred_13 c7 c8 ?_
    refine x_iload_n hM d_Mo_isBarred_16 rfl 2 rfl ?_
    obtain ⟨c5, F⟩ := F
    obtain ⟨c6, F⟩ := F
    refine x_iaload hG hM d_Mo_isBarred_17 c5 c6 ?_
    refine x_iload_n hM d_Mo_isBarred_18 rfl 3 rfl ?_
    have JJ : ∀ (z3 : Int32) (ez3 : z3 = (if (kI h1 (rf h1 v0 10) (Int32.toNatClampNeg v2)) = v3 then 1 else 0)), X G M Q 27 [] [.int z3] h1 := by
      intro z3 ez3
      replace F := F _ ez3
      exact x_zreturn hM d_Mo_isBarred_27 rfl F.1 F.2
    refine x_icmp_ne (tgt := 26) hM d_Mo_isBarred_19 (by decide) (fun q4 => ?_) (fun q4 => ?_)
    · refine x_iconst (v := 0) hM d_Mo_isBarred_26 (by decide) ?_
      refine x_sub [] rfl ?_
      exact JJ _ (Eq.symm (if_neg q4))
    · refine x_iconst (v := 1) hM d_Mo_isBarred_22 (by decide) ?_
      refine x_goto (tgt := 27) hM d_Mo_isBarred_23 (by decide) ?_
      refine x_sub [] rfl ?_
      exact JJ _ (Eq.symm (if_pos q4))
  · replace F := F.1 q10
    refine x_iconst (v := 0) hM d_Mo_isBarred_5 (by decide) ?_
    exact x_zreturn hM d_Mo_isBarred_6 rfl (Or.inl rfl) F
set_option maxRecDepth 100000 in
set_option maxHeartbeats 4000000 in
theorem S_Mo_fact_0 {G : Gc} {M : Mc} {Q : State → Prop} {K : Option Value → Hp → Prop} (hG : gok G) (hM : mok G M r_Mo_fact Q K) (v0 : Nat) (v1 : Int32) (v2 : Int32) (h : Hp) (F : kT h v0 = 12 ∧ sem G r_Mo_isThing [.ref v0, .int v1] h (fun u2 h1 => ∃ x3 : Int32, u2 = some (.int x3) ∧ ((x3 = 0 → K (some (.int (-2))) h1) ∧ (¬ x3 = 0 → (kT h1 v0 = 12 ∧ kR h1 v0 1 = some (rf h1 v0 1) ∧ (kT h1 (rf h1 v0 1) = 50 ∧ vp_in v1 (kN h1 (rf h1 v0 1)) ∧ (sem G r_Mo_isIn [.int v2, .int 0, .int ((kI h1 (rf h1 v0 1) (Int32.toNatClampNeg v1)) - 1)] h1 (fun u5 h4 => ∃ x6 : Int32, u5 = some (.int x6) ∧ ((x6 = 0 → K (some (.int (-2))) h4) ∧ (¬ x6 = 0 → (kT h4 v0 = 12 ∧ sem G r_Mo_lay [.ref v0] h4 (fun u8 h7 => u8 = none ∧ (kT h7 v0 = 12 ∧ sem G r_Mo_isReachedWithout [.ref v0, .int (-1), .int v1, .int v2] h7 (fun u10 h9 => ∃ x11 : Int32, u10 = some (.int x11) ∧ (∀ z12 : Int32, z12 = (if x11 = 0 then 1 else 0) → K (some (.int z12)) h9))))))))))))))) : X G M Q 0 [(0, .ref v0), (1, .int v1), (2, .int v2)] [] h := by
  refine x_aload_n hM d_Mo_fact_0 rfl 0 rfl ?_
  refine x_iload_n hM d_Mo_fact_1 rfl 1 rfl ?_
  obtain ⟨c22, F⟩ := F
  refine x_callV hG hM (r' := r_Mo_isThing) (ci := 11) [.int v1] rfl rfl (Nat.le_of_ble_eq_true rfl) yk_Mo_isThing ⟨Nat.le_of_ble_eq_true rfl, Nat.le_of_ble_eq_true rfl⟩ w_1052 w_1054 ws_Mo_isThing rfl rfl (Nat.le_of_ble_eq_true rfl) d_Mo_fact_2 c22 (sem_mono F ?_)
  intro u2 h1 F
  obtain ⟨x3, rfl, F⟩ := F
  refine x_if_eq (tgt := 24) hM d_Mo_fact_5 (by decide) (fun q21 => ?_) (fun q21 => ?_)
  · replace F := F.1 q21
    refine x_bipush (v := (-2)) hM d_Mo_fact_24 (by decide) ?_
    exact x_ireturn hM d_Mo_fact_26 rfl F
  · replace F := F.2 q21
    refine x_iload_n hM d_Mo_fact_8 rfl 2 rfl ?_
    refine x_iconst (v := 0) hM d_Mo_fact_9 (by decide) ?_
    refine x_aload_n hM d_Mo_fact_10 rfl 0 rfl ?_
    obtain ⟨c19, F⟩ := F
    obtain ⟨c20, F⟩ := F
    refine x_getr hG hM ck_Mo 1 (Nat.le_of_ble_eq_true rfl) rfl rfl w_898 rfl d_Mo_fact_11 c19 c20 ?_
    refine x_iload_n hM d_Mo_fact_14 rfl 1 rfl ?_
    obtain ⟨c17, F⟩ := F
    obtain ⟨c18, F⟩ := F
    refine x_iaload hG hM d_Mo_fact_15 c17 c18 ?_
    refine x_iconst (v := 1) hM d_Mo_fact_16 (by decide) ?_
    refine x_isub hM d_Mo_fact_17 ?_
    refine x_callS hG hM (r' := r_Mo_isIn) [.int v2, .int 0, .int ((kI h1 (rf h1 v0 1) (Int32.toNatClampNeg v1)) - 1)] rfl yk_Mo_isIn ⟨Nat.le_of_ble_eq_true rfl, Nat.le_of_ble_eq_true rfl⟩ w_1017 w_1018 rfl rfl (Nat.le_of_ble_eq_true rfl) d_Mo_fact_18 (sem_mono F ?_)
    intro u5 h4 F
    obtain ⟨x6, rfl, F⟩ := F
    refine x_if_ne (tgt := 27) hM d_Mo_fact_21 (by decide) (fun q16 => ?_) (fun q16 => ?_)
    · replace F := F.2 q16
      refine x_aload_n hM d_Mo_fact_27 rfl 0 rfl ?_
      obtain ⟨c15, F⟩ := F
      refine x_callV hG hM (r' := r_Mo_lay) (ci := 11) [] rfl rfl (Nat.le_of_ble_eq_true rfl) yk_Mo_lay ⟨Nat.le_of_ble_eq_true rfl, Nat.le_of_ble_eq_true rfl⟩ w_1112 w_1114 ws_Mo_lay rfl rfl (Nat.le_of_ble_eq_true rfl) d_Mo_fact_28 c15 (sem_mono F ?_)
      intro u8 h7 F
      obtain ⟨rfl, F⟩ := F
      refine x_aload_n hM d_Mo_fact_31 rfl 0 rfl ?_
      refine x_iconst (v := (-1)) hM d_Mo_fact_32 (by decide) ?_
      refine x_iload_n hM d_Mo_fact_33 rfl 1 rfl ?_
      refine x_iload_n hM d_Mo_fact_34 rfl 2 rfl ?_
      obtain ⟨c14, F⟩ := F
      refine x_callV hG hM (r' := r_Mo_isReachedWithout) (ci := 11) [.int (-1), .int v1, .int v2] rfl rfl (Nat.le_of_ble_eq_true rfl) yk_Mo_isReachedWithout ⟨Nat.le_of_ble_eq_true rfl, Nat.le_of_ble_eq_true rfl⟩ w_1181 w_1183 ws_Mo_isReachedWithout rfl rfl (Nat.le_of_ble_eq_true rfl) d_Mo_fact_35 c14 (sem_mono F ?_)
      intro u10 h9 F
      obtain ⟨x11, rfl, F⟩ := F
      have JJ : ∀ (z12 : Int32) (ez12 : z12 = (if x11 = 0 then 1 else 0)), X G M Q 46 [] [.int z12] h9 := by
        intro z12 ez12
        replace F := F _ ez12
        exact x_ireturn hM d_Mo_fact_46 rfl F
      refine x_if_eq (tgt := 45) hM d_Mo_fact_38 (by decide) (fun q13 => ?_) (fun q13 => ?_)
      · refine x_iconst (v := 1) hM d_Mo_fact_45 (by decide) ?_
        refine x_sub [] rfl ?_
        exact JJ _ (Eq.symm (if_pos q13))
      · refine x_iconst (v := 0) hM d_Mo_fact_41 (by decide) ?_
        refine x_goto (tgt := 46) hM d_Mo_fact_42 (by decide) ?_
        refine x_sub [] rfl ?_
        exact JJ _ (Eq.symm (if_neg q13))
    · replace F := F.1 q16
      refine x_bipush (v := (-2)) hM d_Mo_fact_24 (by decide) ?_
      exact x_ireturn hM d_Mo_fact_26 rfl F
set_option maxRecDepth 100000 in
set_option maxHeartbeats 4000000 in
theorem S_Mo_values_0 {G : Gc} {M : Mc} {Q : State → Prop} {K : Option Value → Hp → Prop} (hG : gok G) (hM : mok G M r_Mo_values Q K) (v0 : Nat) (v1 : Int32) (h : Hp) (F : kT h v0 = 12 ∧ sem G r_Mo_isThing [.ref v0, .int v1] h (fun u2 h1 => ∃ x3 : Int32, u2 = some (.int x3) ∧ ((x3 = 0 → K (some (.int (-2))) h1) ∧ (¬ x3 = 0 → (kT h1 v0 = 12 ∧ sem G r_Mo_lay [.ref v0] h1 (fun u5 h4 => u5 = none ∧ X G M Q 19 [(0, .ref v0), (1, .int v1), (2, .int 0), (3, .int 0)] [] h4)))))) : X G M Q 0 [(0, .ref v0), (1, .int v1)] [] h := by
  refine x_aload_n hM d_Mo_values_0 rfl 0 rfl ?_
  refine x_iload_n hM d_Mo_values_1 rfl 1 rfl ?_
  obtain ⟨c8, F⟩ := F
  refine x_callV hG hM (r' := r_Mo_isThing) (ci := 11) [.int v1] rfl rfl (Nat.le_of_ble_eq_true rfl) yk_Mo_isThing ⟨Nat.le_of_ble_eq_true rfl, Nat.le_of_ble_eq_true rfl⟩ w_1052 w_1054 ws_Mo_isThing rfl rfl (Nat.le_of_ble_eq_true rfl) d_Mo_values_2 c8 (sem_mono F ?_)
  intro u2 h1 F
  obtain ⟨x3, rfl, F⟩ := F
  refine x_if_ne (tgt := 11) hM d_Mo_values_5 (by decide) (fun q7 => ?_) (fun q7 => ?_)
  · replace F := F.2 q7
    refine x_aload_n hM d_Mo_values_11 rfl 0 rfl ?_
    obtain ⟨c6, F⟩ := F
    refine x_callV hG hM (r' := r_Mo_lay) (ci := 11) [] rfl rfl (Nat.le_of_ble_eq_true rfl) yk_Mo_lay ⟨Nat.le_of_ble_eq_true rfl, Nat.le_of_ble_eq_true rfl⟩ w_1112 w_1114 ws_Mo_lay rfl rfl (Nat.le_of_ble_eq_true rfl) d_Mo_values_12 c6 (sem_mono F ?_)
    intro u5 h4 F
    obtain ⟨rfl, F⟩ := F
    refine x_iconst (v := 0) hM d_Mo_values_15 (by decide) ?_
    refine x_istore_n (lv2 := [(2, .int 0), (0, .ref v0), (1, .int v1)]) hM d_Mo_values_16 rfl (Nat.le_of_ble_eq_true rfl) rfl ?_
    refine x_iconst (v := 0) hM d_Mo_values_17 (by decide) ?_
    refine x_istore_n (lv2 := [(3, .int 0), (2, .int 0), (0, .ref v0), (1, .int v1)]) hM d_Mo_values_18 rfl (Nat.le_of_ble_eq_true rfl) rfl ?_
    refine x_sub [2, 3, 1, 0] rfl ?_
    exact F
  · replace F := F.1 q7
    refine x_bipush (v := (-2)) hM d_Mo_values_8 (by decide) ?_
    exact x_ireturn hM d_Mo_values_10 rfl F
set_option maxRecDepth 100000 in
set_option maxHeartbeats 4000000 in
theorem S_Mo_values_19 {G : Gc} {M : Mc} {Q : State → Prop} {K : Option Value → Hp → Prop} (hG : gok G) (hM : mok G M r_Mo_values Q K) (v0 : Nat) (v1 : Int32) (v2 : Int32) (v3 : Int32) (h : Hp) (F : kT h v0 = 12 ∧ (((kI h v0 13) ≤ v3 → K (some (.int v2)) h) ∧ (¬ (kI h v0 13) ≤ v3 → (kT h v0 = 12 ∧ kR h v0 19 = some (rf h v0 19) ∧ (kT h (rf h v0 19) = 50 ∧ vp_in v3 (kN h (rf h v0 19)) ∧ (((kI h (rf h v0 19) (Int32.toNatClampNeg v3)) = (-1) → X G M Q 19 [(0, .ref v0), (1, .int v1), (2, .int v2), (3, .int (v3 + 1))] [] h) ∧ (¬ (kI h (rf h v0 19) (Int32.toNatClampNeg v3)) = (-1) → (kT h v0 = 12 ∧ sem G r_Mo_open [.ref v0, .int v3] h (fun u2 h1 => u2 = none ∧ (kT h1 v0 = 12 ∧ kR h1 v0 10 = some (rf h1 v0 10) ∧ (kT h1 (rf h1 v0 10) = 50 ∧ vp_in v1 (kN h1 (rf h1 v0 10)) ∧ X G M Q 19 [(0, .ref v0), (1, .int v1), (2, .int (v2 ||| (1 <<< ((kI h1 (rf h1 v0 10) (Int32.toNatClampNeg v1)) &&& 31)))), (3, .int (v3 + 1))] [] h1))))))))))) : X G M Q 19 [(0, .ref v0), (1, .int v1), (2, .int v2), (3, .int v3)] [] h := by
  refine x_iload_n hM d_Mo_values_19 rfl 3 rfl ?_
  refine x_aload_n hM d_Mo_values_20 rfl 0 rfl ?_
  obtain ⟨c14, F⟩ := F
  refine x_geti hG hM ck_Mo 13 (Nat.le_of_ble_eq_true rfl) rfl rfl w_910 rfl d_Mo_values_21 c14 ?_
  refine x_icmp_ge (tgt := 59) hM d_Mo_values_24 (by decide) (fun q13 => ?_) (fun q13 => ?_)
  · replace F := F.1 q13
    refine x_iload_n hM d_Mo_values_59 rfl 2 rfl ?_
    exact x_ireturn hM d_Mo_values_60 rfl F
  · replace F := F.2 q13
    refine x_aload_n hM d_Mo_values_27 rfl 0 rfl ?_
    obtain ⟨c11, F⟩ := F
    obtain ⟨c12, F⟩ := F
    refine x_getr hG hM ck_Mo 19 (Nat.le_of_ble_eq_true rfl) rfl rfl w_916 rfl d_Mo_values_28 c11 c12 ?_
    refine x_iload_n hM d_Mo_values_31 rfl 3 rfl ?_
    obtain ⟨c9, F⟩ := F
    obtain ⟨c10, F⟩ := F
    refine x_iaload hG hM d_Mo_values_32 c9 c10 ?_
    refine x_iconst (v := (-1)) hM d_Mo_values_33 (by decide) ?_
    refine x_icmp_eq (tgt := 53) hM d_Mo_values_34 (by decide) (fun q8 => ?_) (fun q8 => ?_)
    · replace F := F.1 q8
      refine x_iinc (v := (v3 + 1)) (lv2 := [(3, .int (v3 + 1)), (0, .ref v0), (1, .int v1), (2, .int v2)]) hM d_Mo_values_53 (j := 3) rfl rfl (Nat.le_of_ble_eq_true rfl) rfl ?_
      refine x_goto (tgt := 19) hM d_Mo_values_56 (by decide) ?_
      refine x_sub [1, 2, 3, 0] rfl ?_
      exact F
    · replace F := F.2 q8
      refine x_aload_n hM d_Mo_values_37 rfl 0 rfl ?_
      refine x_iload_n hM d_Mo_values_38 rfl 3 rfl ?_
      obtain ⟨c7, F⟩ := F
      refine x_callV hG hM (r' := r_Mo_open) (ci := 11) [.int v3] rfl rfl (Nat.le_of_ble_eq_true rfl) yk_Mo_open ⟨Nat.le_of_ble_eq_true rfl, Nat.le_of_ble_eq_true rfl⟩ w_1092 w_1094 ws_Mo_open rfl rfl (Nat.le_of_ble_eq_true rfl) d_Mo_values_39 c7 (sem_mono F ?_)
      intro u2 h1 F
      obtain ⟨rfl, F⟩ := F
      refine x_iload_n hM d_Mo_values_42 rfl 2 rfl ?_
      refine x_iconst (v := 1) hM d_Mo_values_43 (by decide) ?_
      refine x_aload_n hM d_Mo_values_44 rfl 0 rfl ?_
      obtain ⟨c5, F⟩ := F
      obtain ⟨c6, F⟩ := F
      refine x_getr hG hM ck_Mo 10 (Nat.le_of_ble_eq_true rfl) rfl rfl w_907 rfl d_Mo_values_45 c5 c6 ?_
      refine x_iload_n hM d_Mo_values_48 rfl 1 rfl ?_
      obtain ⟨c3, F⟩ := F
      obtain ⟨c4, F⟩ := F
      refine x_iaload hG hM d_Mo_values_49 c3 c4 ?_
      refine x_ishl hM d_Mo_values_50 ?_
      refine x_ior hM d_Mo_values_51 ?_
      refine x_istore_n (lv2 := [(2, .int (v2 ||| (1 <<< ((kI h1 (rf h1 v0 10) (Int32.toNatClampNeg v1)) &&& 31)))), (0, .ref v0), (1, .int v1), (3, .int v3)]) hM d_Mo_values_52 rfl (Nat.le_of_ble_eq_true rfl) rfl ?_
      refine x_iinc (v := (v3 + 1)) (lv2 := [(3, .int (v3 + 1)), (2, .int (v2 ||| (1 <<< ((kI h1 (rf h1 v0 10) (Int32.toNatClampNeg v1)) &&& 31)))), (0, .ref v0), (1, .int v1)]) hM d_Mo_values_53 (j := 3) rfl rfl (Nat.le_of_ble_eq_true rfl) rfl ?_
      refine x_goto (tgt := 19) hM d_Mo_values_56 (by decide) ?_
      refine x_sub [2, 3, 1, 0] rfl ?_
      exact F
set_option maxRecDepth 100000 in
set_option maxHeartbeats 4000000 in
theorem S_Mo_flaw_0 {G : Gc} {M : Mc} {Q : State → Prop} {K : Option Value → Hp → Prop} (hG : gok G) (hM : mok G M r_Mo_flaw Q K) (v0 : Nat) (v1 : Int32) (h : Hp) (F : sem G r_Mo_isIn [.int v1, .int 0, .int 3] h (fun u2 h1 => ∃ x3 : Int32, u2 = some (.int x3) ∧ ((x3 = 0 → K (some (.int (-2))) h1) ∧ (¬ x3 = 0 → (kT h1 v0 = 12 ∧ sem G r_Mo_findFlaw [.ref v0] h1 (fun u5 h4 => ∃ x6 : Int32, u5 = some (.int x6) ∧ ((¬ v1 = 0 → ((v1 = 1 → kT h4 v0 = 12) ∧ (¬ v1 = 1 → (kT h4 v0 = 12 ∧ (¬ (kI h4 v0 36) = (-1) → ((v1 = 2 → kT h4 v0 = 12) ∧ (¬ v1 = 2 → kT h4 v0 = 12))))))) ∧ (∀ z7 : Int32, z7 = (if v1 = 0 then x6 else (if v1 = 1 then (kI h4 v0 35) else (if (kI h4 v0 36) = (-1) then (-1) else (if v1 = 2 then ((kI h4 v0 36) / 3) else ((kI h4 v0 36) - (kI h4 v0 36) / 3 * 3))))) → K (some (.int z7)) h4)))))))) : X G M Q 0 [(0, .ref v0), (1, .int v1)] [] h := by
  refine x_iload_n hM d_Mo_flaw_0 rfl 1 rfl ?_
  refine x_iconst (v := 0) hM d_Mo_flaw_1 (by decide) ?_
  refine x_iconst (v := 3) hM d_Mo_flaw_2 (by decide) ?_
  refine x_callS hG hM (r' := r_Mo_isIn) [.int v1, .int 0, .int 3] rfl yk_Mo_isIn ⟨Nat.le_of_ble_eq_true rfl, Nat.le_of_ble_eq_true rfl⟩ w_1017 w_1018 rfl rfl (Nat.le_of_ble_eq_true rfl) d_Mo_flaw_3 (sem_mono F ?_)
  intro u2 h1 F
  obtain ⟨x3, rfl, F⟩ := F
  refine x_if_ne (tgt := 12) hM d_Mo_flaw_6 (by decide) (fun q17 => ?_) (fun q17 => ?_)
  · replace F := F.2 q17
    refine x_aload_n hM d_Mo_flaw_12 rfl 0 rfl ?_
    obtain ⟨c16, F⟩ := F
    refine x_callV hG hM (r' := r_Mo_findFlaw) (ci := 11) [] rfl rfl (Nat.le_of_ble_eq_true rfl) yk_Mo_findFlaw ⟨Nat.le_of_ble_eq_true rfl, Nat.le_of_ble_eq_true rfl⟩ w_1201 w_1203 ws_Mo_findFlaw rfl rfl (Nat.le_of_ble_eq_true rfl) d_Mo_flaw_13 c16 (sem_mono F ?_)
    intro u5 h4 F
    obtain ⟨x6, rfl, F⟩ := F
    refine x_istore_n (lv2 := [(2, .int x6), (0, .ref v0), (1, .int v1)]) hM d_Mo_flaw_16 rfl (Nat.le_of_ble_eq_true rfl) rfl ?_
    refine x_iload_n hM d_Mo_flaw_17 rfl 2 rfl ?_
    obtain ⟨S, F⟩ := F
    have JJ : ∀ (z7 : Int32) (ez7 : z7 = (if v1 = 0 then x6 else (if v1 = 1 then (kI h4 v0 35) else (if (kI h4 v0 36) = (-1) then (-1) else (if v1 = 2 then ((kI h4 v0 36) / 3) else ((kI h4 v0 36) - (kI h4 v0 36) / 3 * 3)))))), X G M Q 69 [] [.int z7] h4 := by
      intro z7 ez7
      replace F := F _ ez7
      exact x_ireturn hM d_Mo_flaw_69 rfl F
    refine x_if_ne (tgt := 25) hM d_Mo_flaw_18 (by decide) (fun q8 => ?_) (fun q8 => ?_)
    · replace S := S q8
      refine x_iload_n hM d_Mo_flaw_25 rfl 2 rfl ?_
      refine x_iconst (v := 1) hM d_Mo_flaw_26 (by decide) ?_
      refine x_icmp_ne (tgt := 37) hM d_Mo_flaw_27 (by decide) (fun q9 => ?_) (fun q9 => ?_)
      · replace S := S.2 q9
        refine x_aload_n hM d_Mo_flaw_37 rfl 1 rfl ?_
        obtain ⟨c10, S⟩ := S
        refine x_geti hG hM ck_Mo 36 (Nat.le_of_ble_eq_true rfl) rfl rfl w_933 rfl d_Mo_flaw_38 c10 ?_
        refine x_iconst (v := (-1)) hM d_Mo_flaw_41 (by decide) ?_
        refine x_icmp_ne (tgt := 49) hM d_Mo_flaw_42 (by decide) (fun q11 => ?_) (fun q11 => ?_)
        · replace S := S q11
          refine x_iload_n hM d_Mo_flaw_49 rfl 2 rfl ?_
          refine x_iconst (v := 2) hM d_Mo_flaw_50 (by decide) ?_
          refine x_icmp_ne (tgt := 63) hM d_Mo_flaw_51 (by decide) (fun q12 => ?_) (fun q12 => ?_)
          · replace S := S.2 q12
            refine x_aload_n hM d_Mo_flaw_63 rfl 1 rfl ?_
            have c13 := S
            refine x_geti hG hM ck_Mo 36 (Nat.le_of_ble_eq_true rfl) rfl rfl w_933 rfl d_Mo_flaw_64 c13 ?_
            refine x_iconst (v := 3) hM d_Mo_flaw_67 (by decide) ?_
            refine x_irem hM d_Mo_flaw_68 (by decide) ?_
            refine x_sub [] rfl ?_
            exact JJ _ (Eq.symm (Eq.trans (if_neg q8) (Eq.trans (if_neg q9) (Eq.trans (if_neg q11) (if_neg q12)))))
          · replace S := S.1 q12
            refine x_aload_n hM d_Mo_flaw_54 rfl 1 rfl ?_
            have c14 := S
            refine x_geti hG hM ck_Mo 36 (Nat.le_of_ble_eq_true rfl) rfl rfl w_933 rfl d_Mo_flaw_55 c14 ?_
            refine x_iconst (v := 3) hM d_Mo_flaw_58 (by decide) ?_
            refine x_idiv hM d_Mo_flaw_59 (by decide) ?_
            refine x_goto (tgt := 69) hM d_Mo_flaw_60 (by decide) ?_
            refine x_sub [] rfl ?_
            exact JJ _ (Eq.symm (Eq.trans (if_neg q8) (Eq.trans (if_neg q9) (Eq.trans (if_neg q11) (if_pos q12)))))
        · refine x_iconst (v := (-1)) hM d_Mo_flaw_45 (by decide) ?_
          refine x_goto (tgt := 69) hM d_Mo_flaw_46 (by decide) ?_
          refine x_sub [] rfl ?_
          exact JJ _ (Eq.symm (Eq.trans (if_neg q8) (Eq.trans (if_neg q9) (if_pos q11))))
      · replace S := S.1 q9
        refine x_aload_n hM d_Mo_flaw_30 rfl 1 rfl ?_
        have c15 := S
        refine x_geti hG hM ck_Mo 35 (Nat.le_of_ble_eq_true rfl) rfl rfl w_932 rfl d_Mo_flaw_31 c15 ?_
        refine x_goto (tgt := 69) hM d_Mo_flaw_34 (by decide) ?_
        refine x_sub [] rfl ?_
        exact JJ _ (Eq.symm (Eq.trans (if_neg q8) (if_pos q9)))
    · refine x_iload_n hM d_Mo_flaw_21 rfl 0 rfl ?_
      refine x_goto (tgt := 69) hM d_Mo_flaw_22 (by decide) ?_
      refine x_sub [] rfl ?_
      exact JJ _ (Eq.symm (if_pos q8))
  · replace F := F.1 q17
    refine x_bipush (v := (-2)) hM d_Mo_flaw_9 (by decide) ?_
    exact x_ireturn hM d_Mo_flaw_11 rfl F
set_option maxRecDepth 100000 in
set_option maxHeartbeats 4000000 in
theorem S_Mo_findFlaw_0 {G : Gc} {M : Mc} {Q : State → Prop} {K : Option Value → Hp → Prop} (hG : gok G) (hM : mok G M r_Mo_findFlaw Q K) (v0 : Nat) (h : Hp) (F : kT h v0 = 12 ∧ sem G r_Mo_lay [.ref v0] h (fun u2 h1 => u2 = none ∧ (kT h1 v0 = 12 ∧ (∀ h3 : Hp, h3 = wI h1 v0 35 (-1) → (kT h3 v0 = 12 ∧ (∀ h4 : Hp, h4 = wI h3 v0 36 (-1) → (kT h4 v0 = 12 ∧ (kT h4 v0 = 12 ∧ sem G r_Mo_isCovered [.ref v0, .int (kI h4 v0 2)] h4 (fun u6 h5 => ∃ x7 : Int32, u6 = some (.int x7) ∧ ((x7 = 0 → K (some (.int 1)) h5) ∧ (¬ x7 = 0 → X G M Q 29 [(0, .ref v0), (1, .int 0)] [] h5))))))))))) : X G M Q 0 [(0, .ref v0)] [] h := by
  refine x_aload_n hM d_Mo_findFlaw_0 rfl 0 rfl ?_
  obtain ⟨c13, F⟩ := F
  refine x_callV hG hM (r' := r_Mo_lay) (ci := 11) [] rfl rfl (Nat.le_of_ble_eq_true rfl) yk_Mo_lay ⟨Nat.le_of_ble_eq_true rfl, Nat.le_of_ble_eq_true rfl⟩ w_1112 w_1114 ws_Mo_lay rfl rfl (Nat.le_of_ble_eq_true rfl) d_Mo_findFlaw_1 c13 (sem_mono F ?_)
  intro u2 h1 F
  obtain ⟨rfl, F⟩ := F
  refine x_aload_n hM d_Mo_findFlaw_4 rfl 0 rfl ?_
  refine x_iconst (v := (-1)) hM d_Mo_findFlaw_5 (by decide) ?_
  obtain ⟨c12, F⟩ := F
  replace F := F _ rfl
  refine x_puti hG hM ck_Mo 35 (Nat.le_of_ble_eq_true rfl) rfl rfl w_932 rfl d_Mo_findFlaw_6 (Or.inl rfl) c12 ?_
  refine x_aload_n hM d_Mo_findFlaw_9 rfl 0 rfl ?_
  refine x_iconst (v := (-1)) hM d_Mo_findFlaw_10 (by decide) ?_
  obtain ⟨c11, F⟩ := F
  replace F := F _ rfl
  refine x_puti hG hM ck_Mo 36 (Nat.le_of_ble_eq_true rfl) rfl rfl w_933 rfl d_Mo_findFlaw_11 (Or.inl rfl) c11 ?_
  refine x_aload_n hM d_Mo_findFlaw_14 rfl 0 rfl ?_
  refine x_aload_n hM d_Mo_findFlaw_15 rfl 0 rfl ?_
  obtain ⟨c10, F⟩ := F
  refine x_geti hG hM ck_Mo 2 (Nat.le_of_ble_eq_true rfl) rfl rfl w_899 rfl d_Mo_findFlaw_16 c10 ?_
  obtain ⟨c9, F⟩ := F
  refine x_callV hG hM (r' := r_Mo_isCovered) (ci := 11) [.int (kI h4 v0 2)] rfl rfl (Nat.le_of_ble_eq_true rfl) yk_Mo_isCovered ⟨Nat.le_of_ble_eq_true rfl, Nat.le_of_ble_eq_true rfl⟩ w_1205 w_1207 ws_Mo_isCovered rfl rfl (Nat.le_of_ble_eq_true rfl) d_Mo_findFlaw_19 c9 (sem_mono F ?_)
  intro u6 h5 F
  obtain ⟨x7, rfl, F⟩ := F
  refine x_if_ne (tgt := 27) hM d_Mo_findFlaw_22 (by decide) (fun q8 => ?_) (fun q8 => ?_)
  · replace F := F.2 q8
    refine x_iconst (v := 0) hM d_Mo_findFlaw_27 (by decide) ?_
    refine x_istore_n (lv2 := [(1, .int 0), (0, .ref v0)]) hM d_Mo_findFlaw_28 rfl (Nat.le_of_ble_eq_true rfl) rfl ?_
    refine x_sub [1, 0] rfl ?_
    exact F
  · replace F := F.1 q8
    refine x_iconst (v := 1) hM d_Mo_findFlaw_25 (by decide) ?_
    exact x_ireturn hM d_Mo_findFlaw_26 rfl F
set_option maxRecDepth 100000 in
set_option maxHeartbeats 4000000 in
theorem S_Mo_findFlaw_29 {G : Gc} {M : Mc} {Q : State → Prop} {K : Option Value → Hp → Prop} (hG : gok G) (hM : mok G M r_Mo_findFlaw Q K) (v0 : Nat) (v1 : Int32) (h : Hp) (F : kT h v0 = 12 ∧ (((kI h v0 13) ≤ v1 → X G M Q 56 [(0, .ref v0), (1, .int 0)] [] h) ∧ (¬ (kI h v0 13) ≤ v1 → (kT h v0 = 12 ∧ kR h v0 34 = some (rf h v0 34) ∧ (kT h v0 = 12 ∧ sem G r_Mo_isCovered [.ref v0, .int v1] h (fun u2 h1 => ∃ x3 : Int32, u2 = some (.int x3) ∧ (kT h1 (rf h v0 34) = 51 ∧ vp_in v1 (kN h1 (rf h v0 34)) ∧ nb x3 ∧ (∀ h4 : Hp, h4 = wI h1 (rf h v0 34) (Int32.toNatClampNeg v1) x3 → X G M Q 29 [(0, .ref v0), (1, .int (v1 + 1))] [] h4)))))))) : X G M Q 29 [(0, .ref v0), (1, .int v1)] [] h := by
  refine x_iload_n hM d_Mo_findFlaw_29 rfl 1 rfl ?_
  refine x_aload_n hM d_Mo_findFlaw_30 rfl 0 rfl ?_
  obtain ⟨c12, F⟩ := F
  refine x_geti hG hM ck_Mo 13 (Nat.le_of_ble_eq_true rfl) rfl rfl w_910 rfl d_Mo_findFlaw_31 c12 ?_
  refine x_icmp_ge (tgt := 54) hM d_Mo_findFlaw_34 (by decide) (fun q11 => ?_) (fun q11 => ?_)
  · replace F := F.1 q11
    refine x_iconst (v := 0) hM d_Mo_findFlaw_54 (by decide) ?_
    refine x_istore_n (lv2 := [(1, .int 0), (0, .ref v0)]) hM d_Mo_findFlaw_55 rfl (Nat.le_of_ble_eq_true rfl) rfl ?_
    refine x_sub [1, 0] rfl ?_
    exact F
  · replace F := F.2 q11
    refine x_aload_n hM d_Mo_findFlaw_37 rfl 0 rfl ?_
    obtain ⟨c9, F⟩ := F
    obtain ⟨c10, F⟩ := F
    refine x_getr hG hM ck_Mo 34 (Nat.le_of_ble_eq_true rfl) rfl rfl w_931 rfl d_Mo_findFlaw_38 c9 c10 ?_
    refine x_iload_n hM d_Mo_findFlaw_41 rfl 1 rfl ?_
    refine x_aload_n hM d_Mo_findFlaw_42 rfl 0 rfl ?_
    refine x_iload_n hM d_Mo_findFlaw_43 rfl 1 rfl ?_
    obtain ⟨c8, F⟩ := F
    refine x_callV hG hM (r' := r_Mo_isCovered) (ci := 11) [.int v1] rfl rfl (Nat.le_of_ble_eq_true rfl) yk_Mo_isCovered ⟨Nat.le_of_ble_eq_true rfl, Nat.le_of_ble_eq_true rfl⟩ w_1205 w_1207 ws_Mo_isCovered rfl rfl (Nat.le_of_ble_eq_true rfl) d_Mo_findFlaw_44 c8 (sem_mono F ?_)
    intro u2 h1 F
    obtain ⟨x3, rfl, F⟩ := F
    obtain ⟨c5, F⟩ := F
    obtain ⟨c6, F⟩ := F
    obtain ⟨c7, F⟩ := F
    replace F := F _ rfl
    refine x_zastore hG hM d_Mo_findFlaw_47 c5 c6 c7 ?_
    refine x_iinc (v := (v1 + 1)) (lv2 := [(1, .int (v1 + 1)), (0, .ref v0)]) hM d_Mo_findFlaw_48 (j := 1) rfl rfl (Nat.le_of_ble_eq_true rfl) rfl ?_
    refine x_goto (tgt := 29) hM d_Mo_findFlaw_51 (by decide) ?_
    refine x_sub [1, 0] rfl ?_
    exact F
set_option maxRecDepth 100000 in
set_option maxHeartbeats 4000000 in
theorem S_Mo_findFlaw_56 {G : Gc} {M : Mc} {Q : State → Prop} {K : Option Value → Hp → Prop} (hG : gok G) (hM : mok G M r_Mo_findFlaw Q K) (v0 : Nat) (v1 : Int32) (h : Hp) (F : kT h v0 = 12 ∧ (((kI h v0 13) ≤ v1 → X G M Q 137 [(0, .ref v0), (1, .int 0)] [] h) ∧ (¬ (kI h v0 13) ≤ v1 → X G M Q 66 [(0, .ref v0), (1, .int v1), (2, .int 0)] [] h))) : X G M Q 56 [(0, .ref v0), (1, .int v1)] [] h := by
  refine x_iload_n hM d_Mo_findFlaw_56 rfl 1 rfl ?_
  refine x_aload_n hM d_Mo_findFlaw_57 rfl 0 rfl ?_
  obtain ⟨c2, F⟩ := F
  refine x_geti hG hM ck_Mo 13 (Nat.le_of_ble_eq_true rfl) rfl rfl w_910 rfl d_Mo_findFlaw_58 c2 ?_
  refine x_icmp_ge (tgt := 135) hM d_Mo_findFlaw_61 (by decide) (fun q1 => ?_) (fun q1 => ?_)
  · replace F := F.1 q1
    refine x_iconst (v := 0) hM d_Mo_findFlaw_135 (by decide) ?_
    refine x_istore_n (lv2 := [(1, .int 0), (0, .ref v0)]) hM d_Mo_findFlaw_136 rfl (Nat.le_of_ble_eq_true rfl) rfl ?_
    refine x_sub [1, 0] rfl ?_
    exact F
  · replace F := F.2 q1
    refine x_iconst (v := 0) hM d_Mo_findFlaw_64 (by decide) ?_
    refine x_istore_n (lv2 := [(2, .int 0), (0, .ref v0), (1, .int v1)]) hM d_Mo_findFlaw_65 rfl (Nat.le_of_ble_eq_true rfl) rfl ?_
    refine x_sub [1, 2, 0] rfl ?_
    exact F
set_option maxRecDepth 100000 in
set_option maxHeartbeats 4000000 in
theorem S_Mo_findFlaw_66 {G : Gc} {M : Mc} {Q : State → Prop} {K : Option Value → Hp → Prop} (hG : gok G) (hM : mok G M r_Mo_findFlaw Q K) (v0 : Nat) (v1 : Int32) (v2 : Int32) (h : Hp) (F : kT h v0 = 12 ∧ (((3 * (kI h v0 3)) ≤ v2 → X G M Q 56 [(0, .ref v0), (1, .int (v1 + 1))] [] h) ∧ (¬ (3 * (kI h v0 3)) ≤ v2 → (kT h v0 = 12 ∧ kR h v0 34 = some (rf h v0 34) ∧ (kT h (rf h v0 34) = 51 ∧ vp_in v1 (kN h (rf h v0 34)) ∧ (((kI h (rf h v0 34) (Int32.toNatClampNeg v1)) = 0 → X G M Q 56 [(0, .ref v0), (1, .int (v1 + 1))] [] h) ∧ (¬ (kI h (rf h v0 34) (Int32.toNatClampNeg v1)) = 0 → (kT h v0 = 12 ∧ kR h v0 14 = some (rf h v0 14) ∧ (kT h (rf h v0 14) = 50 ∧ vp_in ((36 * v1) + v2) (kN h (rf h v0 14)) ∧ (((kI h (rf h v0 14) (Int32.toNatClampNeg ((36 * v1) + v2))) = (-1) → X G M Q 66 [(0, .ref v0), (1, .int v1), (2, .int (v2 + 1))] [] h) ∧ (¬ (kI h (rf h v0 14) (Int32.toNatClampNeg ((36 * v1) + v2))) = (-1) → (kT h v0 = 12 ∧ kR h v0 34 = some (rf h v0 34) ∧ (kT h (rf h v0 34) = 51 ∧ vp_in (kI h (rf h v0 14) (Int32.toNatClampNeg ((36 * v1) + v2))) (kN h (rf h v0 34)) ∧ (((kI h (rf h v0 34) (Int32.toNatClampNeg (kI h (rf h v0 14) (Int32.toNatClampNeg ((36 * v1) + v2))))) = 0 → (kT h v0 = 12 ∧ (∀ h1 : Hp, h1 = wI h v0 35 v1 → (kT h1 v0 = 12 ∧ (∀ h2 : Hp, h2 = wI h1 v0 36 v2 → K (some (.int 2)) h2))))) ∧ (¬ (kI h (rf h v0 34) (Int32.toNatClampNeg (kI h (rf h v0 14) (Int32.toNatClampNeg ((36 * v1) + v2))))) = 0 → X G M Q 66 [(0, .ref v0), (1, .int v1), (2, .int (v2 + 1))] [] h))))))))))))))) : X G M Q 66 [(0, .ref v0), (1, .int v1), (2, .int v2)] [] h := by
  refine x_iload_n hM d_Mo_findFlaw_66 rfl 2 rfl ?_
  refine x_iconst (v := 3) hM d_Mo_findFlaw_67 (by decide) ?_
  refine x_aload_n hM d_Mo_findFlaw_68 rfl 0 rfl ?_
  obtain ⟨c21, F⟩ := F
  refine x_geti hG hM ck_Mo 3 (Nat.le_of_ble_eq_true rfl) rfl rfl w_900 rfl d_Mo_findFlaw_69 c21 ?_
  refine x_imul hM d_Mo_findFlaw_72 ?_
  refine x_icmp_ge (tgt := 129) hM d_Mo_findFlaw_73 (by decide) (fun q20 => ?_) (fun q20 => ?_)
  · replace F := F.1 q20
    refine x_iinc (v := (v1 + 1)) (lv2 := [(1, .int (v1 + 1)), (0, .ref v0), (2, .int v2)]) hM d_Mo_findFlaw_129 (j := 1) rfl rfl (Nat.le_of_ble_eq_true rfl) rfl ?_
    refine x_goto (tgt := 56) hM d_Mo_findFlaw_132 (by decide) ?_
    refine x_sub [1, 0] rfl ?_
    exact F
  · replace F := F.2 q20
    refine x_aload_n hM d_Mo_findFlaw_76 rfl 0 rfl ?_
    obtain ⟨c18, F⟩ := F
    obtain ⟨c19, F⟩ := F
    refine x_getr hG hM ck_Mo 34 (Nat.le_of_ble_eq_true rfl) rfl rfl w_931 rfl d_Mo_findFlaw_77 c18 c19 ?_
    refine x_iload_n hM d_Mo_findFlaw_80 rfl 1 rfl ?_
    obtain ⟨c16, F⟩ := F
    obtain ⟨c17, F⟩ := F
    refine x_zaload hG hM d_Mo_findFlaw_81 c16 c17 ?_
    refine x_if_eq (tgt := 129) hM d_Mo_findFlaw_82 (by decide) (fun q15 => ?_) (fun q15 => ?_)
    · replace F := F.1 q15
      refine x_iinc (v := (v1 + 1)) (lv2 := [(1, .int (v1 + 1)), (0, .ref v0), (2, .int v2)]) hM d_Mo_findFlaw_129 (j := 1) rfl rfl (Nat.le_of_ble_eq_true rfl) rfl ?_
      refine x_goto (tgt := 56) hM d_Mo_findFlaw_132 (by decide) ?_
      refine x_sub [1, 0] rfl ?_
      exact F
    · replace F := F.2 q15
      refine x_aload_n hM d_Mo_findFlaw_85 rfl 0 rfl ?_
      obtain ⟨c13, F⟩ := F
      obtain ⟨c14, F⟩ := F
      refine x_getr hG hM ck_Mo 14 (Nat.le_of_ble_eq_true rfl) rfl rfl w_911 rfl d_Mo_findFlaw_86 c13 c14 ?_
      refine x_bipush (v := 36) hM d_Mo_findFlaw_89 (by decide) ?_
      refine x_iload_n hM d_Mo_findFlaw_91 rfl 1 rfl ?_
      refine x_imul hM d_Mo_findFlaw_92 ?_
      refine x_iload_n hM d_Mo_findFlaw_93 rfl 2 rfl ?_
      refine x_iadd hM d_Mo_findFlaw_94 ?_
      obtain ⟨c11, F⟩ := F
      obtain ⟨c12, F⟩ := F
      refine x_iaload hG hM d_Mo_findFlaw_95 c11 c12 ?_
      refine x_istore_n (lv2 := [(3, .int (kI h (rf h v0 14) (Int32.toNatClampNeg ((36 * v1) + v2)))), (0, .ref v0), (1, .int v1), (2, .int v2)]) hM d_Mo_findFlaw_96 rfl (Nat.le_of_ble_eq_true rfl) rfl ?_
      refine x_iload_n hM d_Mo_findFlaw_97 rfl 0 rfl ?_
      refine x_iconst (v := (-1)) hM d_Mo_findFlaw_98 (by decide) ?_
      refine x_icmp_eq (tgt := 123) hM d_Mo_findFlaw_99 (by decide) (fun q10 => ?_) (fun q10 => ?_)
      · replace F := F.1 q10
        refine x_iinc (v := (v2 + 1)) (lv2 := [(2, .int (v2 + 1)), (3, .int (kI h (rf h v0 14) (Int32.toNatClampNeg ((36 * v1) + v2)))), (0, .ref v0), (1, .int v1)]) hM d_Mo_findFlaw_123 (j := 3) rfl rfl (Nat.le_of_ble_eq_true rfl) rfl ?_
        refine x_goto (tgt := 66) hM d_Mo_findFlaw_126 (by decide) ?_
        refine x_sub [2, 3, 0] rfl ?_
        exact F
      · replace F := F.2 q10
        refine x_aload_n hM d_Mo_findFlaw_102 rfl 1 rfl ?_
        obtain ⟨c8, F⟩ := F
        obtain ⟨c9, F⟩ := F
        refine x_getr hG hM ck_Mo 34 (Nat.le_of_ble_eq_true rfl) rfl rfl w_931 rfl d_Mo_findFlaw_103 c8 c9 ?_
        refine x_iload_n hM d_Mo_findFlaw_106 rfl 0 rfl ?_
        obtain ⟨c6, F⟩ := F
        obtain ⟨c7, F⟩ := F
        refine x_zaload hG hM d_Mo_findFlaw_107 c6 c7 ?_
        refine x_if_ne (tgt := 123) hM d_Mo_findFlaw_108 (by decide) (fun q5 => ?_) (fun q5 => ?_)
        · replace F := F.2 q5
          refine x_iinc (v := (v2 + 1)) (lv2 := [(2, .int (v2 + 1)), (3, .int (kI h (rf h v0 14) (Int32.toNatClampNeg ((36 * v1) + v2)))), (0, .ref v0), (1, .int v1)]) hM d_Mo_findFlaw_123 (j := 3) rfl rfl (Nat.le_of_ble_eq_true rfl) rfl ?_
          refine x_goto (tgt := 66) hM d_Mo_findFlaw_126 (by decide) ?_
          refine x_sub [2, 3, 0] rfl ?_
          exact F
        · replace F := F.1 q5
          refine x_aload_n hM d_Mo_findFlaw_111 rfl 1 rfl ?_
          refine x_iload_n hM d_Mo_findFlaw_112 rfl 2 rfl ?_
          obtain ⟨c4, F⟩ := F
          replace F := F _ rfl
          refine x_puti hG hM ck_Mo 35 (Nat.le_of_ble_eq_true rfl) rfl rfl w_932 rfl d_Mo_findFlaw_113 (Or.inl rfl) c4 ?_
          refine x_aload_n hM d_Mo_findFlaw_116 rfl 1 rfl ?_
          refine x_iload_n hM d_Mo_findFlaw_117 rfl 3 rfl ?_
          obtain ⟨c3, F⟩ := F
          replace F := F _ rfl
          refine x_puti hG hM ck_Mo 36 (Nat.le_of_ble_eq_true rfl) rfl rfl w_933 rfl d_Mo_findFlaw_118 (Or.inl rfl) c3 ?_
          refine x_iconst (v := 2) hM d_Mo_findFlaw_121 (by decide) ?_
          exact x_ireturn hM d_Mo_findFlaw_122 rfl F
set_option maxRecDepth 100000 in
set_option maxHeartbeats 4000000 in
theorem S_Mo_findFlaw_137 {G : Gc} {M : Mc} {Q : State → Prop} {K : Option Value → Hp → Prop} (hG : gok G) (hM : mok G M r_Mo_findFlaw Q K) (v0 : Nat) (v1 : Int32) (h : Hp) (F : kT h v0 = 12 ∧ (((kI h v0 13) ≤ v1 → K (some (.int 0)) h) ∧ (¬ (kI h v0 13) ≤ v1 → (kT h v0 = 12 ∧ kR h v0 34 = some (rf h v0 34) ∧ (kT h (rf h v0 34) = 51 ∧ vp_in v1 (kN h (rf h v0 34)) ∧ (((kI h (rf h v0 34) (Int32.toNatClampNeg v1)) = 0 → X G M Q 137 [(0, .ref v0), (1, .int (v1 + 1))] [] h) ∧ (¬ (kI h (rf h v0 34) (Int32.toNatClampNeg v1)) = 0 → (kT h v0 = 12 ∧ kR h v0 15 = some (rf h v0 15) ∧ (kT h (rf h v0 15) = 51 ∧ vp_in v1 (kN h (rf h v0 15)) ∧ (((kI h (rf h v0 15) (Int32.toNatClampNeg v1)) = 0 → X G M Q 137 [(0, .ref v0), (1, .int (v1 + 1))] [] h) ∧ (¬ (kI h (rf h v0 15) (Int32.toNatClampNeg v1)) = 0 → (kT h v0 = 12 ∧ (∀ h1 : Hp, h1 = wI h v0 35 v1 → K (some (.int 3)) h1))))))))))))) : X G M Q 137 [(0, .ref v0), (1, .int v1)] [] h := by
  refine x_iload_n hM d_Mo_findFlaw_137 rfl 1 rfl ?_
  refine x_aload_n hM d_Mo_findFlaw_138 rfl 0 rfl ?_
  obtain ⟨c14, F⟩ := F
  refine x_geti hG hM ck_Mo 13 (Nat.le_of_ble_eq_true rfl) rfl rfl w_910 rfl d_Mo_findFlaw_139 c14 ?_
  refine x_icmp_ge (tgt := 176) hM d_Mo_findFlaw_142 (by decide) (fun q13 => ?_) (fun q13 => ?_)
  · replace F := F.1 q13
    refine x_iconst (v := 0) hM d_Mo_findFlaw_176 (by decide) ?_
    exact x_ireturn hM d_Mo_findFlaw_177 rfl F
  · replace F := F.2 q13
    refine x_aload_n hM d_Mo_findFlaw_145 rfl 0 rfl ?_
    obtain ⟨c11, F⟩ := F
    obtain ⟨c12, F⟩ := F
    refine x_getr hG hM ck_Mo 34 (Nat.le_of_ble_eq_true rfl) rfl rfl w_931 rfl d_Mo_findFlaw_146 c11 c12 ?_
    refine x_iload_n hM d_Mo_findFlaw_149 rfl 1 rfl ?_
    obtain ⟨c9, F⟩ := F
    obtain ⟨c10, F⟩ := F
    refine x_zaload hG hM d_Mo_findFlaw_150 c9 c10 ?_
    refine x_if_eq (tgt := 170) hM d_Mo_findFlaw_151 (by decide) (fun q8 => ?_) (fun q8 => ?_)
    · replace F := F.1 q8
      refine x_iinc (v := (v1 + 1)) (lv2 := [(1, .int (v1 + 1)), (0, .ref v0)]) hM d_Mo_findFlaw_170 (j := 1) rfl rfl (Nat.le_of_ble_eq_true rfl) rfl ?_
      refine x_goto (tgt := 137) hM d_Mo_findFlaw_173 (by decide) ?_
      refine x_sub [1, 0] rfl ?_
      exact F
    · replace F := F.2 q8
      refine x_aload_n hM d_Mo_findFlaw_154 rfl 0 rfl ?_
      obtain ⟨c6, F⟩ := F
      obtain ⟨c7, F⟩ := F
      refine x_getr hG hM ck_Mo 15 (Nat.le_of_ble_eq_true rfl) rfl rfl w_912 rfl d_Mo_findFlaw_155 c6 c7 ?_
      refine x_iload_n hM d_Mo_findFlaw_158 rfl 1 rfl ?_
      obtain ⟨c4, F⟩ := F
      obtain ⟨c5, F⟩ := F
      refine x_zaload hG hM d_Mo_findFlaw_159 c4 c5 ?_
      refine x_if_eq (tgt := 170) hM d_Mo_findFlaw_160 (by decide) (fun q3 => ?_) (fun q3 => ?_)
      · replace F := F.1 q3
        refine x_iinc (v := (v1 + 1)) (lv2 := [(1, .int (v1 + 1)), (0, .ref v0)]) hM d_Mo_findFlaw_170 (j := 1) rfl rfl (Nat.le_of_ble_eq_true rfl) rfl ?_
        refine x_goto (tgt := 137) hM d_Mo_findFlaw_173 (by decide) ?_
        refine x_sub [1, 0] rfl ?_
        exact F
      · replace F := F.2 q3
        refine x_aload_n hM d_Mo_findFlaw_163 rfl 0 rfl ?_
        refine x_iload_n hM d_Mo_findFlaw_164 rfl 1 rfl ?_
        obtain ⟨c2, F⟩ := F
        replace F := F _ rfl
        refine x_puti hG hM ck_Mo 35 (Nat.le_of_ble_eq_true rfl) rfl rfl w_932 rfl d_Mo_findFlaw_165 (Or.inl rfl) c2 ?_
        refine x_iconst (v := 3) hM d_Mo_findFlaw_168 (by decide) ?_
        exact x_ireturn hM d_Mo_findFlaw_169 rfl F
set_option maxRecDepth 100000 in
set_option maxHeartbeats 4000000 in
theorem S_Mo_isCovered_0 {G : Gc} {M : Mc} {Q : State → Prop} {K : Option Value → Hp → Prop} (hG : gok G) (hM : mok G M r_Mo_isCovered Q K) (v0 : Nat) (v1 : Int32) (h : Hp) (F : kT h v0 = 12 ∧ sem G r_Mo_open [.ref v0, .int v1] h (fun u2 h1 => u2 = none ∧ X G M Q 7 [(0, .ref v0), (2, .int 0)] [] h1)) : X G M Q 0 [(0, .ref v0), (1, .int v1)] [] h := by
  refine x_aload_n hM d_Mo_isCovered_0 rfl 0 rfl ?_
  refine x_iload_n hM d_Mo_isCovered_1 rfl 1 rfl ?_
  obtain ⟨c3, F⟩ := F
  refine x_callV hG hM (r' := r_Mo_open) (ci := 11) [.int v1] rfl rfl (Nat.le_of_ble_eq_true rfl) yk_Mo_open ⟨Nat.le_of_ble_eq_true rfl, Nat.le_of_ble_eq_true rfl⟩ w_1092 w_1094 ws_Mo_open rfl rfl (Nat.le_of_ble_eq_true rfl) d_Mo_isCovered_2 c3 (sem_mono F ?_)
  intro u2 h1 F
  obtain ⟨rfl, F⟩ := F
  refine x_iconst (v := 0) hM d_Mo_isCovered_5 (by decide) ?_
  refine x_istore_n (lv2 := [(2, .int 0), (0, .ref v0), (1, .int v1)]) hM d_Mo_isCovered_6 rfl (Nat.le_of_ble_eq_true rfl) rfl ?_
  refine x_sub [1, 0] rfl ?_
  exact F
set_option maxRecDepth 100000 in
set_option maxHeartbeats 4000000 in
theorem S_Mo_isCovered_7 {G : Gc} {M : Mc} {Q : State → Prop} {K : Option Value → Hp → Prop} (hG : gok G) (hM : mok G M r_Mo_isCovered Q K) (v0 : Nat) (v2 : Int32) (h : Hp) (F : kT h v0 = 12 ∧ (((kI h v0 9) ≤ v2 → K (some (.int 0)) h) ∧ (¬ (kI h v0 9) ≤ v2 → (kT h v0 = 12 ∧ sem G r_Mo_hold [.ref v0, .int (13 + v2)] h (fun u2 h1 => ∃ x3 : Int32, u2 = some (.int x3) ∧ ((x3 = 0 → X G M Q 7 [(0, .ref v0), (2, .int (v2 + 1))] [] h1) ∧ (¬ x3 = 0 → K (some (.int 1)) h1))))))) : X G M Q 7 [(0, .ref v0), (2, .int v2)] [] h := by
  refine x_iload_n hM d_Mo_isCovered_7 rfl 1 rfl ?_
  refine x_aload_n hM d_Mo_isCovered_8 rfl 0 rfl ?_
  obtain ⟨c7, F⟩ := F
  refine x_geti hG hM ck_Mo 9 (Nat.le_of_ble_eq_true rfl) rfl rfl w_906 rfl d_Mo_isCovered_9 c7 ?_
  refine x_icmp_ge (tgt := 34) hM d_Mo_isCovered_12 (by decide) (fun q6 => ?_) (fun q6 => ?_)
  · replace F := F.1 q6
    refine x_iconst (v := 0) hM d_Mo_isCovered_34 (by decide) ?_
    exact x_zreturn hM d_Mo_isCovered_35 rfl (Or.inl rfl) F
  · replace F := F.2 q6
    refine x_aload_n hM d_Mo_isCovered_15 rfl 0 rfl ?_
    refine x_bipush (v := 13) hM d_Mo_isCovered_16 (by decide) ?_
    refine x_iload_n hM d_Mo_isCovered_18 rfl 1 rfl ?_
    refine x_iadd hM d_Mo_isCovered_19 ?_
    obtain ⟨c5, F⟩ := F
    refine x_callV hG hM (r' := r_Mo_hold) (ci := 11) [.int (13 + v2)] rfl rfl (Nat.le_of_ble_eq_true rfl) yk_Mo_hold ⟨Nat.le_of_ble_eq_true rfl, Nat.le_of_ble_eq_true rfl⟩ w_1096 w_1098 ws_Mo_hold rfl rfl (Nat.le_of_ble_eq_true rfl) d_Mo_isCovered_20 c5 (sem_mono F ?_)
    intro u2 h1 F
    obtain ⟨x3, rfl, F⟩ := F
    refine x_if_eq (tgt := 28) hM d_Mo_isCovered_23 (by decide) (fun q4 => ?_) (fun q4 => ?_)
    · replace F := F.1 q4
      refine x_iinc (v := (v2 + 1)) (lv2 := [(2, .int (v2 + 1)), (0, .ref v0)]) hM d_Mo_isCovered_28 (j := 1) rfl rfl (Nat.le_of_ble_eq_true rfl) rfl ?_
      refine x_goto (tgt := 7) hM d_Mo_isCovered_31 (by decide) ?_
      refine x_sub [1, 0] rfl ?_
      exact F
    · replace F := F.2 q4
      refine x_iconst (v := 1) hM d_Mo_isCovered_26 (by decide) ?_
      exact x_zreturn hM d_Mo_isCovered_27 rfl (Or.inr rfl) F
