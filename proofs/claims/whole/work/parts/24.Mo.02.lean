theorem d_Mo_effect_0 : decode b_Mo_effect 0 = .ok (.aload_n 0, 1) := by decide +kernel
theorem d_Mo_effect_1 : decode b_Mo_effect 1 = .ok (.iload_n 1, 1) := by decide +kernel
theorem d_Mo_effect_2 : decode b_Mo_effect 2 = .ok (.invokevirtual 130, 3) := by decide +kernel
theorem d_Mo_effect_5 : decode b_Mo_effect 5 = .ok (.ifCond .eq 90, 3) := by decide +kernel
theorem d_Mo_effect_8 : decode b_Mo_effect 8 = .ok (.iload_n 2, 1) := by decide +kernel
theorem d_Mo_effect_9 : decode b_Mo_effect 9 = .ok (.iconst 0, 1) := by decide +kernel
theorem d_Mo_effect_10 : decode b_Mo_effect 10 = .ok (.aload_n 0, 1) := by decide +kernel
theorem d_Mo_effect_11 : decode b_Mo_effect 11 = .ok (.getfield 13, 3) := by decide +kernel
theorem d_Mo_effect_14 : decode b_Mo_effect 14 = .ok (.iload_n 1, 1) := by decide +kernel
theorem d_Mo_effect_15 : decode b_Mo_effect 15 = .ok (.iaload, 1) := by decide +kernel
theorem d_Mo_effect_16 : decode b_Mo_effect 16 = .ok (.iconst 1, 1) := by decide +kernel
theorem d_Mo_effect_17 : decode b_Mo_effect 17 = .ok (.isub, 1) := by decide +kernel
theorem d_Mo_effect_18 : decode b_Mo_effect 18 = .ok (.invokestatic 118, 3) := by decide +kernel
theorem d_Mo_effect_21 : decode b_Mo_effect 21 = .ok (.ifCond .eq 74, 3) := by decide +kernel
theorem d_Mo_effect_24 : decode b_Mo_effect 24 = .ok (.aload_n 0, 1) := by decide +kernel
theorem d_Mo_effect_25 : decode b_Mo_effect 25 = .ok (.iload_n 3, 1) := by decide +kernel
theorem d_Mo_effect_26 : decode b_Mo_effect 26 = .ok (.invokevirtual 133, 3) := by decide +kernel
theorem d_Mo_effect_29 : decode b_Mo_effect 29 = .ok (.ifCond .eq 66, 3) := by decide +kernel
theorem d_Mo_effect_32 : decode b_Mo_effect 32 = .ok (.iload 4, 2) := by decide +kernel
theorem d_Mo_effect_34 : decode b_Mo_effect 34 = .ok (.iconst 0, 1) := by decide +kernel
theorem d_Mo_effect_35 : decode b_Mo_effect 35 = .ok (.iconst 2, 1) := by decide +kernel
theorem d_Mo_effect_36 : decode b_Mo_effect 36 = .ok (.invokestatic 118, 3) := by decide +kernel
theorem d_Mo_effect_39 : decode b_Mo_effect 39 = .ok (.ifCond .eq 56, 3) := by decide +kernel
theorem d_Mo_effect_42 : decode b_Mo_effect 42 = .ok (.iload 4, 2) := by decide +kernel
theorem d_Mo_effect_44 : decode b_Mo_effect 44 = .ok (.ifCond .ne 23, 3) := by decide +kernel
theorem d_Mo_effect_47 : decode b_Mo_effect 47 = .ok (.iload 5, 2) := by decide +kernel
theorem d_Mo_effect_49 : decode b_Mo_effect 49 = .ok (.iconst 0, 1) := by decide +kernel
theorem d_Mo_effect_50 : decode b_Mo_effect 50 = .ok (.aload_n 0, 1) := by decide +kernel
theorem d_Mo_effect_51 : decode b_Mo_effect 51 = .ok (.getfield 7, 3) := by decide +kernel
theorem d_Mo_effect_54 : decode b_Mo_effect 54 = .ok (.iload_n 3, 1) := by decide +kernel
theorem d_Mo_effect_55 : decode b_Mo_effect 55 = .ok (.iaload, 1) := by decide +kernel
theorem d_Mo_effect_56 : decode b_Mo_effect 56 = .ok (.iconst 1, 1) := by decide +kernel
theorem d_Mo_effect_57 : decode b_Mo_effect 57 = .ok (.isub, 1) := by decide +kernel
theorem d_Mo_effect_58 : decode b_Mo_effect 58 = .ok (.invokestatic 118, 3) := by decide +kernel
theorem d_Mo_effect_61 : decode b_Mo_effect 61 = .ok (.ifCond .ne 37, 3) := by decide +kernel
theorem d_Mo_effect_64 : decode b_Mo_effect 64 = .ok (.goto 31, 3) := by decide +kernel
theorem d_Mo_effect_67 : decode b_Mo_effect 67 = .ok (.iload 4, 2) := by decide +kernel
theorem d_Mo_effect_69 : decode b_Mo_effect 69 = .ok (.iconst 1, 1) := by decide +kernel
theorem d_Mo_effect_70 : decode b_Mo_effect 70 = .ok (.if_icmp .ne 15, 3) := by decide +kernel
theorem d_Mo_effect_73 : decode b_Mo_effect 73 = .ok (.aload_n 0, 1) := by decide +kernel
theorem d_Mo_effect_74 : decode b_Mo_effect 74 = .ok (.iload 5, 2) := by decide +kernel
theorem d_Mo_effect_76 : decode b_Mo_effect 76 = .ok (.invokevirtual 133, 3) := by decide +kernel
theorem d_Mo_effect_79 : decode b_Mo_effect 79 = .ok (.ifCond .ne 19, 3) := by decide +kernel
theorem d_Mo_effect_82 : decode b_Mo_effect 82 = .ok (.goto 13, 3) := by decide +kernel
theorem d_Mo_effect_85 : decode b_Mo_effect 85 = .ok (.iload 5, 2) := by decide +kernel
theorem d_Mo_effect_87 : decode b_Mo_effect 87 = .ok (.iconst 0, 1) := by decide +kernel
theorem d_Mo_effect_88 : decode b_Mo_effect 88 = .ok (.iconst 3, 1) := by decide +kernel
theorem d_Mo_effect_89 : decode b_Mo_effect 89 = .ok (.invokestatic 118, 3) := by decide +kernel
theorem d_Mo_effect_92 : decode b_Mo_effect 92 = .ok (.ifCond .ne 6, 3) := by decide +kernel
theorem d_Mo_effect_95 : decode b_Mo_effect 95 = .ok (.bipush (-2), 2) := by decide +kernel
theorem d_Mo_effect_97 : decode b_Mo_effect 97 = .ok (.ireturn, 1) := by decide +kernel
theorem d_Mo_effect_98 : decode b_Mo_effect 98 = .ok (.iconst 3, 1) := by decide +kernel
theorem d_Mo_effect_99 : decode b_Mo_effect 99 = .ok (.iload_n 1, 1) := by decide +kernel
theorem d_Mo_effect_100 : decode b_Mo_effect 100 = .ok (.imul, 1) := by decide +kernel
theorem d_Mo_effect_101 : decode b_Mo_effect 101 = .ok (.iload_n 2, 1) := by decide +kernel
theorem d_Mo_effect_102 : decode b_Mo_effect 102 = .ok (.iadd, 1) := by decide +kernel
theorem d_Mo_effect_103 : decode b_Mo_effect 103 = .ok (.istore 6, 2) := by decide +kernel
theorem d_Mo_effect_105 : decode b_Mo_effect 105 = .ok (.aload_n 0, 1) := by decide +kernel
theorem d_Mo_effect_106 : decode b_Mo_effect 106 = .ok (.getfield 22, 3) := by decide +kernel
theorem d_Mo_effect_109 : decode b_Mo_effect 109 = .ok (.iload 6, 2) := by decide +kernel
theorem d_Mo_effect_111 : decode b_Mo_effect 111 = .ok (.iaload, 1) := by decide +kernel
theorem d_Mo_effect_112 : decode b_Mo_effect 112 = .ok (.iconst 4, 1) := by decide +kernel
theorem d_Mo_effect_113 : decode b_Mo_effect 113 = .ok (.if_icmp .ne 6, 3) := by decide +kernel
theorem d_Mo_effect_116 : decode b_Mo_effect 116 = .ok (.bipush (-3), 2) := by decide +kernel
theorem d_Mo_effect_118 : decode b_Mo_effect 118 = .ok (.ireturn, 1) := by decide +kernel
theorem d_Mo_effect_119 : decode b_Mo_effect 119 = .ok (.bipush 12, 2) := by decide +kernel
theorem d_Mo_effect_121 : decode b_Mo_effect 121 = .ok (.iload 6, 2) := by decide +kernel
theorem d_Mo_effect_123 : decode b_Mo_effect 123 = .ok (.imul, 1) := by decide +kernel
theorem d_Mo_effect_124 : decode b_Mo_effect 124 = .ok (.iconst 3, 1) := by decide +kernel
theorem d_Mo_effect_125 : decode b_Mo_effect 125 = .ok (.aload_n 0, 1) := by decide +kernel
theorem d_Mo_effect_126 : decode b_Mo_effect 126 = .ok (.getfield 22, 3) := by decide +kernel
theorem d_Mo_effect_129 : decode b_Mo_effect 129 = .ok (.iload 6, 2) := by decide +kernel
theorem d_Mo_effect_131 : decode b_Mo_effect 131 = .ok (.iaload, 1) := by decide +kernel
theorem d_Mo_effect_132 : decode b_Mo_effect 132 = .ok (.imul, 1) := by decide +kernel
theorem d_Mo_effect_133 : decode b_Mo_effect 133 = .ok (.iadd, 1) := by decide +kernel
theorem d_Mo_effect_134 : decode b_Mo_effect 134 = .ok (.istore 7, 2) := by decide +kernel
theorem d_Mo_effect_136 : decode b_Mo_effect 136 = .ok (.aload_n 0, 1) := by decide +kernel
theorem d_Mo_effect_137 : decode b_Mo_effect 137 = .ok (.getfield 25, 3) := by decide +kernel
theorem d_Mo_effect_140 : decode b_Mo_effect 140 = .ok (.iload 7, 2) := by decide +kernel
theorem d_Mo_effect_142 : decode b_Mo_effect 142 = .ok (.iload_n 3, 1) := by decide +kernel
theorem d_Mo_effect_143 : decode b_Mo_effect 143 = .ok (.iastore, 1) := by decide +kernel
theorem d_Mo_effect_144 : decode b_Mo_effect 144 = .ok (.aload_n 0, 1) := by decide +kernel
theorem d_Mo_effect_145 : decode b_Mo_effect 145 = .ok (.getfield 25, 3) := by decide +kernel
theorem d_Mo_effect_148 : decode b_Mo_effect 148 = .ok (.iload 7, 2) := by decide +kernel
theorem d_Mo_effect_150 : decode b_Mo_effect 150 = .ok (.iconst 1, 1) := by decide +kernel
theorem d_Mo_effect_151 : decode b_Mo_effect 151 = .ok (.iadd, 1) := by decide +kernel
theorem d_Mo_effect_152 : decode b_Mo_effect 152 = .ok (.iload 4, 2) := by decide +kernel
theorem d_Mo_effect_154 : decode b_Mo_effect 154 = .ok (.iastore, 1) := by decide +kernel
theorem d_Mo_effect_155 : decode b_Mo_effect 155 = .ok (.aload_n 0, 1) := by decide +kernel
theorem d_Mo_effect_156 : decode b_Mo_effect 156 = .ok (.getfield 25, 3) := by decide +kernel
theorem d_Mo_effect_159 : decode b_Mo_effect 159 = .ok (.iload 7, 2) := by decide +kernel
theorem d_Mo_effect_161 : decode b_Mo_effect 161 = .ok (.iconst 2, 1) := by decide +kernel
theorem d_Mo_effect_162 : decode b_Mo_effect 162 = .ok (.iadd, 1) := by decide +kernel
theorem d_Mo_effect_163 : decode b_Mo_effect 163 = .ok (.iload 5, 2) := by decide +kernel
theorem d_Mo_effect_165 : decode b_Mo_effect 165 = .ok (.iastore, 1) := by decide +kernel
theorem d_Mo_effect_166 : decode b_Mo_effect 166 = .ok (.aload_n 0, 1) := by decide +kernel
theorem d_Mo_effect_167 : decode b_Mo_effect 167 = .ok (.getfield 22, 3) := by decide +kernel
theorem d_Mo_effect_170 : decode b_Mo_effect 170 = .ok (.iload 6, 2) := by decide +kernel
theorem d_Mo_effect_172 : decode b_Mo_effect 172 = .ok (.dup2, 1) := by decide +kernel
theorem d_Mo_effect_173 : decode b_Mo_effect 173 = .ok (.iaload, 1) := by decide +kernel
theorem d_Mo_effect_174 : decode b_Mo_effect 174 = .ok (.iconst 1, 1) := by decide +kernel
theorem d_Mo_effect_175 : decode b_Mo_effect 175 = .ok (.iadd, 1) := by decide +kernel
theorem d_Mo_effect_176 : decode b_Mo_effect 176 = .ok (.iastore, 1) := by decide +kernel
theorem d_Mo_effect_177 : decode b_Mo_effect 177 = .ok (.aload_n 0, 1) := by decide +kernel
theorem d_Mo_effect_178 : decode b_Mo_effect 178 = .ok (.invokevirtual 95, 3) := by decide +kernel
theorem d_Mo_effect_181 : decode b_Mo_effect 181 = .ok (.aload_n 0, 1) := by decide +kernel
theorem d_Mo_effect_182 : decode b_Mo_effect 182 = .ok (.getfield 22, 3) := by decide +kernel
theorem d_Mo_effect_185 : decode b_Mo_effect 185 = .ok (.iload 6, 2) := by decide +kernel
theorem d_Mo_effect_187 : decode b_Mo_effect 187 = .ok (.iaload, 1) := by decide +kernel
theorem d_Mo_effect_188 : decode b_Mo_effect 188 = .ok (.ireturn, 1) := by decide +kernel
set_option maxRecDepth 100000 in
set_option maxHeartbeats 4000000 in
theorem S_Mo_effect_0 {G : Gc} {M : Mc} {Q : State → Prop} {K : Option Value → Hp → Prop} (hG : gok G) (hM : mok G M r_Mo_effect Q K) (v0 : Nat) (v1 : Int32) (v2 : Int32) (v3 : Int32) (v4 : Int32) (v5 : Int32) (h : Hp) (F : kT h v0 = 12 ∧ sem G r_Mo_isAct [.ref v0, .int v1] h (fun u2 h1 => ∃ x3 : Int32, u2 = some (.int x3) ∧ ((x3 = 0 → K (some (.int (-2))) h1) ∧ (¬ x3 = 0 → (kT h1 v0 = 12 ∧ kR h1 v0 4 = some (rf h1 v0 4) ∧ (kT h1 (rf h1 v0 4) = 50 ∧ vp_in v1 (kN h1 (rf h1 v0 4)) ∧ (sem G r_Mo_isIn [.int v2, .int 0, .int ((kI h1 (rf h1 v0 4) (Int32.toNatClampNeg v1)) - 1)] h1 (fun u5 h4 => ∃ x6 : Int32, u5 = some (.int x6) ∧ ((x6 = 0 → K (some (.int (-2))) h4) ∧ (¬ x6 = 0 → (kT h4 v0 = 12 ∧ sem G r_Mo_isThing [.ref v0, .int v3] h4 (fun u8 h7 => ∃ x9 : Int32, u8 = some (.int x9) ∧ ((x9 = 0 → K (some (.int (-2))) h7) ∧ (¬ x9 = 0 → (sem G r_Mo_isIn [.int v4, .int 0, .int 2] h7 (fun u11 h10 => ∃ x12 : Int32, u11 = some (.int x12) ∧ ((x12 = 0 → K (some (.int (-2))) h10) ∧ (¬ x12 = 0 → ((v4 = 0 → (kT h10 v0 = 12 ∧ kR h10 v0 1 = some (rf h10 v0 1) ∧ (kT h10 (rf h10 v0 1) = 50 ∧ vp_in v3 (kN h10 (rf h10 v0 1)) ∧ (sem G r_Mo_isIn [.int v5, .int 0, .int ((kI h10 (rf h10 v0 1) (Int32.toNatClampNeg v3)) - 1)] h10 (fun u100 h99 => ∃ x101 : Int32, u100 = some (.int x101) ∧ ((x101 = 0 → K (some (.int (-2))) h99) ∧ (¬ x101 = 0 → (kT h99 v0 = 12 ∧ kR h99 v0 7 = some (rf h99 v0 7) ∧ (kT h99 (rf h99 v0 7) = 50 ∧ vp_in ((3 * v1) + v2) (kN h99 (rf h99 v0 7)) ∧ (((kI h99 (rf h99 v0 7) (Int32.toNatClampNeg ((3 * v1) + v2))) = 4 → K (some (.int (-3))) h99) ∧ (¬ (kI h99 (rf h99 v0 7) (Int32.toNatClampNeg ((3 * v1) + v2))) = 4 → (kT h99 v0 = 12 ∧ kR h99 v0 7 = some (rf h99 v0 7) ∧ (kT h99 (rf h99 v0 7) = 50 ∧ vp_in ((3 * v1) + v2) (kN h99 (rf h99 v0 7)) ∧ (kT h99 v0 = 12 ∧ kR h99 v0 8 = some (rf h99 v0 8) ∧ (kT h99 (rf h99 v0 8) = 50 ∧ vp_in ((12 * ((3 * v1) + v2)) + (3 * (kI h99 (rf h99 v0 7) (Int32.toNatClampNeg ((3 * v1) + v2))))) (kN h99 (rf h99 v0 8)) ∧ (∀ h102 : Hp, h102 = wI h99 (rf h99 v0 8) (Int32.toNatClampNeg ((12 * ((3 * v1) + v2)) + (3 * (kI h99 (rf h99 v0 7) (Int32.toNatClampNeg ((3 * v1) + v2)))))) v3 → (kT h102 v0 = 12 ∧ kR h102 v0 8 = some (rf h102 v0 8) ∧ (kT h102 (rf h102 v0 8) = 50 ∧ vp_in (((12 * ((3 * v1) + v2)) + (3 * (kI h99 (rf h99 v0 7) (Int32.toNatClampNeg ((3 * v1) + v2))))) + 1) (kN h102 (rf h102 v0 8)) ∧ (∀ h103 : Hp, h103 = wI h102 (rf h102 v0 8) (Int32.toNatClampNeg (((12 * ((3 * v1) + v2)) + (3 * (kI h99 (rf h99 v0 7) (Int32.toNatClampNeg ((3 * v1) + v2))))) + 1)) v4 → (kT h103 v0 = 12 ∧ kR h103 v0 8 = some (rf h103 v0 8) ∧ (kT h103 (rf h103 v0 8) = 50 ∧ vp_in (((12 * ((3 * v1) + v2)) + (3 * (kI h99 (rf h99 v0 7) (Int32.toNatClampNeg ((3 * v1) + v2))))) + 2) (kN h103 (rf h103 v0 8)) ∧ (∀ h104 : Hp, h104 = wI h103 (rf h103 v0 8) (Int32.toNatClampNeg (((12 * ((3 * v1) + v2)) + (3 * (kI h99 (rf h99 v0 7) (Int32.toNatClampNeg ((3 * v1) + v2))))) + 2)) v5 → (kT h104 v0 = 12 ∧ kR h104 v0 7 = some (rf h104 v0 7) ∧ (kT h104 (rf h104 v0 7) = 50 ∧ vp_in ((3 * v1) + v2) (kN h104 (rf h104 v0 7)) ∧ (kT h104 (rf h104 v0 7) = 50 ∧ vp_in ((3 * v1) + v2) (kN h104 (rf h104 v0 7)) ∧ (∀ h105 : Hp, h105 = wI h104 (rf h104 v0 7) (Int32.toNatClampNeg ((3 * v1) + v2)) ((kI h104 (rf h104 v0 7) (Int32.toNatClampNeg ((3 * v1) + v2))) + 1) → (kT h105 v0 = 12 ∧ sem G r_Mo_forget [.ref v0] h105 (fun u107 h106 => u107 = none ∧ (kT h106 v0 = 12 ∧ kR h106 v0 7 = some (rf h106 v0 7) ∧ (kT h106 (rf h106 v0 7) = 50 ∧ vp_in ((3 * v1) + v2) (kN h106 (rf h106 v0 7)) ∧ K (some (.int (kI h106 (rf h106 v0 7) (Int32.toNatClampNeg ((3 * v1) + v2))))) h106)))))))))))))))))))))))))))))) ∧ (¬ v4 = 0 → ((v4 = 1 → (kT h10 v0 = 12 ∧ sem G r_Mo_isThing [.ref v0, .int v5] h10 (fun u56 h55 => ∃ x57 : Int32, u56 = some (.int x57) ∧ ((x57 = 0 → K (some (.int (-2))) h55) ∧ (¬ x57 = 0 → (kT h55 v0 = 12 ∧ kR h55 v0 7 = some (rf h55 v0 7) ∧ (kT h55 (rf h55 v0 7) = 50 ∧ vp_in ((3 * v1) + v2) (kN h55 (rf h55 v0 7)) ∧ (((kI h55 (rf h55 v0 7) (Int32.toNatClampNeg ((3 * v1) + v2))) = 4 → K (some (.int (-3))) h55) ∧ (¬ (kI h55 (rf h55 v0 7) (Int32.toNatClampNeg ((3 * v1) + v2))) = 4 → (kT h55 v0 = 12 ∧ kR h55 v0 7 = some (rf h55 v0 7) ∧ (kT h55 (rf h55 v0 7) = 50 ∧ vp_in ((3 * v1) + v2) (kN h55 (rf h55 v0 7)) ∧ (kT h55 v0 = 12 ∧ kR h55 v0 8 = some (rf h55 v0 8) ∧ (kT h55 (rf h55 v0 8) = 50 ∧ vp_in ((12 * ((3 * v1) + v2)) + (3 * (kI h55 (rf h55 v0 7) (Int32.toNatClampNeg ((3 * v1) + v2))))) (kN h55 (rf h55 v0 8)) ∧ (∀ h58 : Hp, h58 = wI h55 (rf h55 v0 8) (Int32.toNatClampNeg ((12 * ((3 * v1) + v2)) + (3 * (kI h55 (rf h55 v0 7) (Int32.toNatClampNeg ((3 * v1) + v2)))))) v3 → (kT h58 v0 = 12 ∧ kR h58 v0 8 = some (rf h58 v0 8) ∧ (kT h58 (rf h58 v0 8) = 50 ∧ vp_in (((12 * ((3 * v1) + v2)) + (3 * (kI h55 (rf h55 v0 7) (Int32.toNatClampNeg ((3 * v1) + v2))))) + 1) (kN h58 (rf h58 v0 8)) ∧ (∀ h59 : Hp, h59 = wI h58 (rf h58 v0 8) (Int32.toNatClampNeg (((12 * ((3 * v1) + v2)) + (3 * (kI h55 (rf h55 v0 7) (Int32.toNatClampNeg ((3 * v1) + v2))))) + 1)) v4 → (kT h59 v0 = 12 ∧ kR h59 v0 8 = some (rf h59 v0 8) ∧ (kT h59 (rf h59 v0 8) = 50 ∧ vp_in (((12 * ((3 * v1) + v2)) + (3 * (kI h55 (rf h55 v0 7) (Int32.toNatClampNeg ((3 * v1) + v2))))) + 2) (kN h59 (rf h59 v0 8)) ∧ (∀ h60 : Hp, h60 = wI h59 (rf h59 v0 8) (Int32.toNatClampNeg (((12 * ((3 * v1) + v2)) + (3 * (kI h55 (rf h55 v0 7) (Int32.toNatClampNeg ((3 * v1) + v2))))) + 2)) v5 → (kT h60 v0 = 12 ∧ kR h60 v0 7 = some (rf h60 v0 7) ∧ (kT h60 (rf h60 v0 7) = 50 ∧ vp_in ((3 * v1) + v2) (kN h60 (rf h60 v0 7)) ∧ (kT h60 (rf h60 v0 7) = 50 ∧ vp_in ((3 * v1) + v2) (kN h60 (rf h60 v0 7)) ∧ (∀ h61 : Hp, h61 = wI h60 (rf h60 v0 7) (Int32.toNatClampNeg ((3 * v1) + v2)) ((kI h60 (rf h60 v0 7) (Int32.toNatClampNeg ((3 * v1) + v2))) + 1) → (kT h61 v0 = 12 ∧ sem G r_Mo_forget [.ref v0] h61 (fun u63 h62 => u63 = none ∧ (kT h62 v0 = 12 ∧ kR h62 v0 7 = some (rf h62 v0 7) ∧ (kT h62 (rf h62 v0 7) = 50 ∧ vp_in ((3 * v1) + v2) (kN h62 (rf h62 v0 7)) ∧ K (some (.int (kI h62 (rf h62 v0 7) (Int32.toNatClampNeg ((3 * v1) + v2))))) h62)))))))))))))))))))))))))))) ∧ (¬ v4 = 1 → (sem G r_Mo_isIn [.int v5, .int 0, .int 3] h10 (fun u14 h13 => ∃ x15 : Int32, u14 = some (.int x15) ∧ ((x15 = 0 → K (some (.int (-2))) h13) ∧ (¬ x15 = 0 → (kT h13 v0 = 12 ∧ kR h13 v0 7 = some (rf h13 v0 7) ∧ (kT h13 (rf h13 v0 7) = 50 ∧ vp_in ((3 * v1) + v2) (kN h13 (rf h13 v0 7)) ∧ (((kI h13 (rf h13 v0 7) (Int32.toNatClampNeg ((3 * v1) + v2))) = 4 → K (some (.int (-3))) h13) ∧ (¬ (kI h13 (rf h13 v0 7) (Int32.toNatClampNeg ((3 * v1) + v2))) = 4 → (kT h13 v0 = 12 ∧ kR h13 v0 7 = some (rf h13 v0 7) ∧ (kT h13 (rf h13 v0 7) = 50 ∧ vp_in ((3 * v1) + v2) (kN h13 (rf h13 v0 7)) ∧ (kT h13 v0 = 12 ∧ kR h13 v0 8 = some (rf h13 v0 8) ∧ (kT h13 (rf h13 v0 8) = 50 ∧ vp_in ((12 * ((3 * v1) + v2)) + (3 * (kI h13 (rf h13 v0 7) (Int32.toNatClampNeg ((3 * v1) + v2))))) (kN h13 (rf h13 v0 8)) ∧ (∀ h16 : Hp, h16 = wI h13 (rf h13 v0 8) (Int32.toNatClampNeg ((12 * ((3 * v1) + v2)) + (3 * (kI h13 (rf h13 v0 7) (Int32.toNatClampNeg ((3 * v1) + v2)))))) v3 → (kT h16 v0 = 12 ∧ kR h16 v0 8 = some (rf h16 v0 8) ∧ (kT h16 (rf h16 v0 8) = 50 ∧ vp_in (((12 * ((3 * v1) + v2)) + (3 * (kI h13 (rf h13 v0 7) (Int32.toNatClampNeg ((3 * v1) + v2))))) + 1) (kN h16 (rf h16 v0 8)) ∧ (∀ h17 : Hp, h17 = wI h16 (rf h16 v0 8) (Int32.toNatClampNeg (((12 * ((3 * v1) + v2)) + (3 * (kI h13 (rf h13 v0 7) (Int32.toNatClampNeg ((3 * v1) + v2))))) + 1)) v4 → (kT h17 v0 = 12 ∧ kR h17 v0 8 = some (rf h17 v0 8) ∧ (kT h17 (rf h17 v0 8) = 50 ∧ vp_in (((12 * ((3 * v1) + v2)) + (3 * (kI h13 (rf h13 v0 7) (Int32.toNatClampNeg ((3 * v1) + v2))))) + 2) (kN h17 (rf h17 v0 8)) ∧ (∀ h18 : Hp, h18 = wI h17 (rf h17 v0 8) (Int32.toNatClampNeg (((12 * ((3 * v1) + v2)) + (3 * (kI h13 (rf h13 v0 7) (Int32.toNatClampNeg ((3 * v1) + v2))))) + 2)) v5 → (kT h18 v0 = 12 ∧ kR h18 v0 7 = some (rf h18 v0 7) ∧ (kT h18 (rf h18 v0 7) = 50 ∧ vp_in ((3 * v1) + v2) (kN h18 (rf h18 v0 7)) ∧ (kT h18 (rf h18 v0 7) = 50 ∧ vp_in ((3 * v1) + v2) (kN h18 (rf h18 v0 7)) ∧ (∀ h19 : Hp, h19 = wI h18 (rf h18 v0 7) (Int32.toNatClampNeg ((3 * v1) + v2)) ((kI h18 (rf h18 v0 7) (Int32.toNatClampNeg ((3 * v1) + v2))) + 1) → (kT h19 v0 = 12 ∧ sem G r_Mo_forget [.ref v0] h19 (fun u21 h20 => u21 = none ∧ (kT h20 v0 = 12 ∧ kR h20 v0 7 = some (rf h20 v0 7) ∧ (kT h20 (rf h20 v0 7) = 50 ∧ vp_in ((3 * v1) + v2) (kN h20 (rf h20 v0 7)) ∧ K (some (.int (kI h20 (rf h20 v0 7) (Int32.toNatClampNeg ((3 * v1) + v2))))) h20))))))))))))))))))))))))))))))))))))))))))))))))) : X G M Q 0 [(0, .ref v0), (1, .int v1), (2, .int v2), (3, .int v3), (4, .int v4), (5, .int v5)] [] h := by
  refine x_aload_n hM d_Mo_effect_0 rfl 0 rfl ?_
  refine x_iload_n hM d_Mo_effect_1 rfl 1 rfl ?_
  obtain ⟨c155, F⟩ := F
  refine x_callV hG hM (r' := r_Mo_isAct) (ci := 11) [.int v1] rfl rfl (Nat.le_of_ble_eq_true rfl) yk_Mo_isAct ⟨Nat.le_of_ble_eq_true rfl, Nat.le_of_ble_eq_true rfl⟩ w_1040 w_1042 ws_Mo_isAct rfl rfl (Nat.le_of_ble_eq_true rfl) d_Mo_effect_2 c155 (sem_mono F ?_)
  intro u2 h1 F
  obtain ⟨x3, rfl, F⟩ := F
  refine x_if_eq (tgt := 95) hM d_Mo_effect_5 (by decide) (fun q154 => ?_) (fun q154 => ?_)
  · replace F := F.1 q154
    refine x_bipush (v := (-2)) hM d_Mo_effect_95 (by decide) ?_
    exact x_ireturn hM d_Mo_effect_97 rfl F
  · replace F := F.2 q154
    refine x_iload_n hM d_Mo_effect_8 rfl 2 rfl ?_
    refine x_iconst (v := 0) hM d_Mo_effect_9 (by decide) ?_
    refine x_aload_n hM d_Mo_effect_10 rfl 0 rfl ?_
    obtain ⟨c152, F⟩ := F
    obtain ⟨c153, F⟩ := F
    refine x_getr hG hM ck_Mo 4 (Nat.le_of_ble_eq_true rfl) rfl rfl w_901 rfl d_Mo_effect_11 c152 c153 ?_
    refine x_iload_n hM d_Mo_effect_14 rfl 1 rfl ?_
    obtain ⟨c150, F⟩ := F
    obtain ⟨c151, F⟩ := F
    refine x_iaload hG hM d_Mo_effect_15 c150 c151 ?_
    refine x_iconst (v := 1) hM d_Mo_effect_16 (by decide) ?_
    refine x_isub hM d_Mo_effect_17 ?_
    refine x_callS hG hM (r' := r_Mo_isIn) [.int v2, .int 0, .int ((kI h1 (rf h1 v0 4) (Int32.toNatClampNeg v1)) - 1)] rfl yk_Mo_isIn ⟨Nat.le_of_ble_eq_true rfl, Nat.le_of_ble_eq_true rfl⟩ w_1017 w_1018 rfl rfl (Nat.le_of_ble_eq_true rfl) d_Mo_effect_18 (sem_mono F ?_)
    intro u5 h4 F
    obtain ⟨x6, rfl, F⟩ := F
    refine x_if_eq (tgt := 95) hM d_Mo_effect_21 (by decide) (fun q149 => ?_) (fun q149 => ?_)
    · replace F := F.1 q149
      refine x_bipush (v := (-2)) hM d_Mo_effect_95 (by decide) ?_
      exact x_ireturn hM d_Mo_effect_97 rfl F
    · replace F := F.2 q149
      refine x_aload_n hM d_Mo_effect_24 rfl 0 rfl ?_
      refine x_iload_n hM d_Mo_effect_25 rfl 3 rfl ?_
      obtain ⟨c148, F⟩ := F
      refine x_callV hG hM (r' := r_Mo_isThing) (ci := 11) [.int v3] rfl rfl (Nat.le_of_ble_eq_true rfl) yk_Mo_isThing ⟨Nat.le_of_ble_eq_true rfl, Nat.le_of_ble_eq_true rfl⟩ w_1052 w_1054 ws_Mo_isThing rfl rfl (Nat.le_of_ble_eq_true rfl) d_Mo_effect_26 c148 (sem_mono F ?_)
      intro u8 h7 F
      obtain ⟨x9, rfl, F⟩ := F
      refine x_if_eq (tgt := 95) hM d_Mo_effect_29 (by decide) (fun q147 => ?_) (fun q147 => ?_)
      · replace F := F.1 q147
        refine x_bipush (v := (-2)) hM d_Mo_effect_95 (by decide) ?_
        exact x_ireturn hM d_Mo_effect_97 rfl F
      · replace F := F.2 q147
        refine x_iload hM d_Mo_effect_32 4 rfl ?_
        refine x_iconst (v := 0) hM d_Mo_effect_34 (by decide) ?_
        refine x_iconst (v := 2) hM d_Mo_effect_35 (by decide) ?_
        refine x_callS hG hM (r' := r_Mo_isIn) [.int v4, .int 0, .int 2] rfl yk_Mo_isIn ⟨Nat.le_of_ble_eq_true rfl, Nat.le_of_ble_eq_true rfl⟩ w_1017 w_1018 rfl rfl (Nat.le_of_ble_eq_true rfl) d_Mo_effect_36 (sem_mono F ?_)
        intro u11 h10 F
        obtain ⟨x12, rfl, F⟩ := F
        refine x_if_eq (tgt := 95) hM d_Mo_effect_39 (by decide) (fun q146 => ?_) (fun q146 => ?_)
        · replace F := F.1 q146
          refine x_bipush (v := (-2)) hM d_Mo_effect_95 (by decide) ?_
          exact x_ireturn hM d_Mo_effect_97 rfl F
        · replace F := F.2 q146
          refine x_iload hM d_Mo_effect_42 4 rfl ?_
          refine x_if_ne (tgt := 67) hM d_Mo_effect_44 (by decide) (fun q145 => ?_) (fun q145 => ?_)
          · replace F := F.2 q145
            refine x_iload hM d_Mo_effect_67 4 rfl ?_
            refine x_iconst (v := 1) hM d_Mo_effect_69 (by decide) ?_
            refine x_icmp_ne (tgt := 85) hM d_Mo_effect_70 (by decide) (fun q98 => ?_) (fun q98 => ?_)
            · replace F := F.2 q98
              refine x_iload hM d_Mo_effect_85 5 rfl ?_
              refine x_iconst (v := 0) hM d_Mo_effect_87 (by decide) ?_
              refine x_iconst (v := 3) hM d_Mo_effect_88 (by decide) ?_
              refine x_callS hG hM (r' := r_Mo_isIn) [.int v5, .int 0, .int 3] rfl yk_Mo_isIn ⟨Nat.le_of_ble_eq_true rfl, Nat.le_of_ble_eq_true rfl⟩ w_1017 w_1018 rfl rfl (Nat.le_of_ble_eq_true rfl) d_Mo_effect_89 (sem_mono F ?_)
              intro u14 h13 F
              obtain ⟨x15, rfl, F⟩ := F
              refine x_if_ne (tgt := 98) hM d_Mo_effect_92 (by decide) (fun q54 => ?_) (fun q54 => ?_)
              · replace F := F.2 q54
                refine x_iconst (v := 3) hM d_Mo_effect_98 (by decide) ?_
                refine x_iload_n hM d_Mo_effect_99 rfl 1 rfl ?_
                refine x_imul hM d_Mo_effect_100 ?_
                refine x_iload_n hM d_Mo_effect_101 rfl 2 rfl ?_
                refine x_iadd hM d_Mo_effect_102 ?_
                refine x_istore (lv2 := [(6, .int ((3 * v1) + v2)), (0, .ref v0), (1, .int v1), (2, .int v2), (3, .int v3), (4, .int v4), (5, .int v5)]) hM d_Mo_effect_103 (Nat.le_of_ble_eq_true rfl) rfl ?_
                refine x_aload_n hM d_Mo_effect_105 rfl 1 rfl ?_
                obtain ⟨c52, F⟩ := F
                obtain ⟨c53, F⟩ := F
                refine x_getr hG hM ck_Mo 7 (Nat.le_of_ble_eq_true rfl) rfl rfl w_904 rfl d_Mo_effect_106 c52 c53 ?_
                refine x_iload hM d_Mo_effect_109 0 rfl ?_
                obtain ⟨c50, F⟩ := F
                obtain ⟨c51, F⟩ := F
                refine x_iaload hG hM d_Mo_effect_111 c50 c51 ?_
                refine x_iconst (v := 4) hM d_Mo_effect_112 (by decide) ?_
                refine x_icmp_ne (tgt := 119) hM d_Mo_effect_113 (by decide) (fun q49 => ?_) (fun q49 => ?_)
                · replace F := F.2 q49
                  refine x_bipush (v := 12) hM d_Mo_effect_119 (by decide) ?_
                  refine x_iload hM d_Mo_effect_121 0 rfl ?_
                  refine x_imul hM d_Mo_effect_123 ?_
                  refine x_iconst (v := 3) hM d_Mo_effect_124 (by decide) ?_
                  refine x_aload_n hM d_Mo_effect_125 rfl 1 rfl ?_
                  obtain ⟨c47, F⟩ := F
                  obtain ⟨c48, F⟩ := F
                  refine x_getr hG hM ck_Mo 7 (Nat.le_of_ble_eq_true rfl) rfl rfl w_904 rfl d_Mo_effect_126 c47 c48 ?_
                  refine x_iload hM d_Mo_effect_129 0 rfl ?_
                  obtain ⟨c45, F⟩ := F
                  obtain ⟨c46, F⟩ := F
                  refine x_iaload hG hM d_Mo_effect_131 c45 c46 ?_
                  refine x_imul hM d_Mo_effect_132 ?_
                  refine x_iadd hM d_Mo_effect_133 ?_
                  refine x_istore (lv2 := [(7, .int ((12 * ((3 * v1) + v2)) + (3 * (kI h13 (rf h13 v0 7) (Int32.toNatClampNeg ((3 * v1) + v2)))))), (6, .int ((3 * v1) + v2)), (0, .ref v0), (1, .int v1), (2, .int v2), (3, .int v3), (4, .int v4), (5, .int v5)]) hM d_Mo_effect_134 (Nat.le_of_ble_eq_true rfl) rfl ?_
                  refine x_aload_n hM d_Mo_effect_136 rfl 2 rfl ?_
                  obtain ⟨c43, F⟩ := F
                  obtain ⟨c44, F⟩ := F
                  refine x_getr hG hM ck_Mo 8 (Nat.le_of_ble_eq_true rfl) rfl rfl w_905 rfl d_Mo_effect_137 c43 c44 ?_
                  refine x_iload hM d_Mo_effect_140 0 rfl ?_
                  refine x_iload_n hM d_Mo_effect_142 rfl 5 rfl ?_
                  obtain ⟨c41, F⟩ := F
                  obtain ⟨c42, F⟩ := F
                  obtain ⟨h16, eh16⟩ : ∃ z : Hp, z = wI h13 (rf h13 v0 8) (Int32.toNatClampNeg ((12 * ((3 * v1) + v2)) + (3 * (kI h13 (rf h13 v0 7) (Int32.toNatClampNeg ((3 * v1) + v2)))))) v3 := ⟨_, rfl⟩
                  replace F := F h16 eh16
                  refine x_iastore hG hM d_Mo_effect_143 c41 c42 ?_
                  rw [← eh16]
                  clear eh16
                  refine x_aload_n hM d_Mo_effect_144 rfl 2 rfl ?_
                  obtain ⟨c39, F⟩ := F
                  obtain ⟨c40, F⟩ := F
                  refine x_getr hG hM ck_Mo 8 (Nat.le_of_ble_eq_true rfl) rfl rfl w_905 rfl d_Mo_effect_145 c39 c40 ?_
                  refine x_iload hM d_Mo_effect_148 0 rfl ?_
                  refine x_iconst (v := 1) hM d_Mo_effect_150 (by decide) ?_
                  refine x_iadd hM d_Mo_effect_151 ?_
                  refine x_iload hM d_Mo_effect_152 6 rfl ?_
                  obtain ⟨c37, F⟩ := F
                  obtain ⟨c38, F⟩ := F
                  obtain ⟨h17, eh17⟩ : ∃ z : Hp, z = wI h16 (rf h16 v0 8) (Int32.toNatClampNeg (((12 * ((3 * v1) + v2)) + (3 * (kI h13 (rf h13 v0 7) (Int32.toNatClampNeg ((3 * v1) + v2))))) + 1)) v4 := ⟨_, rfl⟩
                  replace F := F h17 eh17
                  refine x_iastore hG hM d_Mo_effect_154 c37 c38 ?_
                  rw [← eh17]
                  clear eh17
                  refine x_aload_n hM d_Mo_effect_155 rfl 2 rfl ?_
                  obtain ⟨c35, F⟩ := F
                  obtain ⟨c36, F⟩ := F
                  refine x_getr hG hM ck_Mo 8 (Nat.le_of_ble_eq_true rfl) rfl rfl w_905 rfl d_Mo_effect_156 c35 c36 ?_
                  refine x_iload hM d_Mo_effect_159 0 rfl ?_
                  refine x_iconst (v := 2) hM d_Mo_effect_161 (by decide) ?_
                  refine x_iadd hM d_Mo_effect_162 ?_
                  refine x_iload hM d_Mo_effect_163 7 rfl ?_
                  obtain ⟨c33, F⟩ := F
                  obtain ⟨c34, F⟩ := F
                  obtain ⟨h18, eh18⟩ : ∃ z : Hp, z = wI h17 (rf h17 v0 8) (Int32.toNatClampNeg (((12 * ((3 * v1) + v2)) + (3 * (kI h13 (rf h13 v0 7) (Int32.toNatClampNeg ((3 * v1) + v2))))) + 2)) v5 := ⟨_, rfl⟩
                  replace F := F h18 eh18
                  refine x_iastore hG hM d_Mo_effect_165 c33 c34 ?_
                  rw [← eh18]
                  clear eh18
                  refine x_aload_n hM d_Mo_effect_166 rfl 2 rfl ?_
                  obtain ⟨c31, F⟩ := F
                  obtain ⟨c32, F⟩ := F
                  refine x_getr hG hM ck_Mo 7 (Nat.le_of_ble_eq_true rfl) rfl rfl w_904 rfl d_Mo_effect_167 c31 c32 ?_
                  refine x_iload hM d_Mo_effect_170 1 rfl ?_
                  refine x_dup2 hM d_Mo_effect_172 rfl rfl ?_
                  obtain ⟨c29, F⟩ := F
                  obtain ⟨c30, F⟩ := F
                  refine x_iaload hG hM d_Mo_effect_173 c29 c30 ?_
                  refine x_iconst (v := 1) hM d_Mo_effect_174 (by decide) ?_
                  refine x_iadd hM d_Mo_effect_175 ?_
                  obtain ⟨c27, F⟩ := F
                  obtain ⟨c28, F⟩ := F
                  obtain ⟨h19, eh19⟩ : ∃ z : Hp, z = wI h18 (rf h18 v0 7) (Int32.toNatClampNeg ((3 * v1) + v2)) ((kI h18 (rf h18 v0 7) (Int32.toNatClampNeg ((3 * v1) + v2))) + 1) := ⟨_, rfl⟩
                  replace F := F h19 eh19
                  refine x_iastore hG hM d_Mo_effect_176 c27 c28 ?_
                  rw [← eh19]
                  clear eh19
                  refine x_aload_n hM d_Mo_effect_177 rfl 2 rfl ?_
                  obtain ⟨c26, F⟩ := F
                  refine x_callV hG hM (r' := r_Mo_forget) (ci := 11) [] rfl rfl (Nat.le_of_ble_eq_true rfl) yk_Mo_forget ⟨Nat.le_of_ble_eq_true rfl, Nat.le_of_ble_eq_true rfl⟩ w_893 w_895 ws_Mo_forget rfl rfl (Nat.le_of_ble_eq_true rfl) d_Mo_effect_178 c26 (sem_mono F ?_)
                  intro u21 h20 F
                  obtain ⟨rfl, F⟩ := F
                  refine x_aload_n hM d_Mo_effect_181 rfl 2 rfl ?_
                  obtain ⟨c24, F⟩ := F
                  obtain ⟨c25, F⟩ := F
                  refine x_getr hG hM ck_Mo 7 (Nat.le_of_ble_eq_true rfl) rfl rfl w_904 rfl d_Mo_effect_182 c24 c25 ?_
                  refine x_iload hM d_Mo_effect_185 1 rfl ?_
                  obtain ⟨c22, F⟩ := F
                  obtain ⟨c23, F⟩ := F
                  refine x_iaload hG hM d_Mo_effect_187 c22 c23 ?_
                  exact x_ireturn hM d_Mo_effect_188 rfl F
                · replace F := F.1 q49
                  refine x_bipush (v := (-3)) hM d_Mo_effect_116 (by decide) ?_
                  exact x_ireturn hM d_Mo_effect_118 rfl F
              · replace F := F.1 q54
                refine x_bipush (v := (-2)) hM d_Mo_effect_95 (by decide) ?_
                exact x_ireturn hM d_Mo_effect_97 rfl F
            · replace F := F.1 q98
              refine x_aload_n hM d_Mo_effect_73 rfl 0 rfl ?_
              refine x_iload hM d_Mo_effect_74 5 rfl ?_
              obtain ⟨c97, F⟩ := F
              refine x_callV hG hM (r' := r_Mo_isThing) (ci := 11) [.int v5] rfl rfl (Nat.le_of_ble_eq_true rfl) yk_Mo_isThing ⟨Nat.le_of_ble_eq_true rfl, Nat.le_of_ble_eq_true rfl⟩ w_1052 w_1054 ws_Mo_isThing rfl rfl (Nat.le_of_ble_eq_true rfl) d_Mo_effect_76 c97 (sem_mono F ?_)
              intro u56 h55 F
              obtain ⟨x57, rfl, F⟩ := F
              refine x_if_ne (tgt := 98) hM d_Mo_effect_79 (by decide) (fun q96 => ?_) (fun q96 => ?_)
              · replace F := F.2 q96
                refine x_iconst (v := 3) hM d_Mo_effect_98 (by decide) ?_
                refine x_iload_n hM d_Mo_effect_99 rfl 1 rfl ?_
                refine x_imul hM d_Mo_effect_100 ?_
                refine x_iload_n hM d_Mo_effect_101 rfl 2 rfl ?_
                refine x_iadd hM d_Mo_effect_102 ?_
                refine x_istore (lv2 := [(6, .int ((3 * v1) + v2)), (0, .ref v0), (1, .int v1), (2, .int v2), (3, .int v3), (4, .int v4), (5, .int v5)]) hM d_Mo_effect_103 (Nat.le_of_ble_eq_true rfl) rfl ?_
                refine x_aload_n hM d_Mo_effect_105 rfl 1 rfl ?_
                obtain ⟨c94, F⟩ := F
                obtain ⟨c95, F⟩ := F
                refine x_getr hG hM ck_Mo 7 (Nat.le_of_ble_eq_true rfl) rfl rfl w_904 rfl d_Mo_effect_106 c94 c95 ?_
                refine x_iload hM d_Mo_effect_109 0 rfl ?_
                obtain ⟨c92, F⟩ := F
                obtain ⟨c93, F⟩ := F
                refine x_iaload hG hM d_Mo_effect_111 c92 c93 ?_
                refine x_iconst (v := 4) hM d_Mo_effect_112 (by decide) ?_
                refine x_icmp_ne (tgt := 119) hM d_Mo_effect_113 (by decide) (fun q91 => ?_) (fun q91 => ?_)
                · replace F := F.2 q91
                  refine x_bipush (v := 12) hM d_Mo_effect_119 (by decide) ?_
                  refine x_iload hM d_Mo_effect_121 0 rfl ?_
                  refine x_imul hM d_Mo_effect_123 ?_
                  refine x_iconst (v := 3) hM d_Mo_effect_124 (by decide) ?_
                  refine x_aload_n hM d_Mo_effect_125 rfl 1 rfl ?_
                  obtain ⟨c89, F⟩ := F
                  obtain ⟨c90, F⟩ := F
                  refine x_getr hG hM ck_Mo 7 (Nat.le_of_ble_eq_true rfl) rfl rfl w_904 rfl d_Mo_effect_126 c89 c90 ?_
                  refine x_iload hM d_Mo_effect_129 0 rfl ?_
                  obtain ⟨c87, F⟩ := F
                  obtain ⟨c88, F⟩ := F
                  refine x_iaload hG hM d_Mo_effect_131 c87 c88 ?_
                  refine x_imul hM d_Mo_effect_132 ?_
                  refine x_iadd hM d_Mo_effect_133 ?_
                  refine x_istore (lv2 := [(7, .int ((12 * ((3 * v1) + v2)) + (3 * (kI h55 (rf h55 v0 7) (Int32.toNatClampNeg ((3 * v1) + v2)))))), (6, .int ((3 * v1) + v2)), (0, .ref v0), (1, .int v1), (2, .int v2), (3, .int v3), (4, .int v4), (5, .int v5)]) hM d_Mo_effect_134 (Nat.le_of_ble_eq_true rfl) rfl ?_
                  refine x_aload_n hM d_Mo_effect_136 rfl 2 rfl ?_
                  obtain ⟨c85, F⟩ := F
                  obtain ⟨c86, F⟩ := F
                  refine x_getr hG hM ck_Mo 8 (Nat.le_of_ble_eq_true rfl) rfl rfl w_905 rfl d_Mo_effect_137 c85 c86 ?_
                  refine x_iload hM d_Mo_effect_140 0 rfl ?_
                  refine x_iload_n hM d_Mo_effect_142 rfl 5 rfl ?_
                  obtain ⟨c83, F⟩ := F
                  obtain ⟨c84, F⟩ := F
                  obtain ⟨h58, eh58⟩ : ∃ z : Hp, z = wI h55 (rf h55 v0 8) (Int32.toNatClampNeg ((12 * ((3 * v1) + v2)) + (3 * (kI h55 (rf h55 v0 7) (Int32.toNatClampNeg ((3 * v1) + v2)))))) v3 := ⟨_, rfl⟩
                  replace F := F h58 eh58
                  refine x_iastore hG hM d_Mo_effect_143 c83 c84 ?_
                  rw [← eh58]
                  clear eh58
                  refine x_aload_n hM d_Mo_effect_144 rfl 2 rfl ?_
                  obtain ⟨c81, F⟩ := F
                  obtain ⟨c82, F⟩ := F
                  refine x_getr hG hM ck_Mo 8 (Nat.le_of_ble_eq_true rfl) rfl rfl w_905 rfl d_Mo_effect_145 c81 c82 ?_
                  refine x_iload hM d_Mo_effect_148 0 rfl ?_
                  refine x_iconst (v := 1) hM d_Mo_effect_150 (by decide) ?_
                  refine x_iadd hM d_Mo_effect_151 ?_
                  refine x_iload hM d_Mo_effect_152 6 rfl ?_
                  obtain ⟨c79, F⟩ := F
                  obtain ⟨c80, F⟩ := F
                  obtain ⟨h59, eh59⟩ : ∃ z : Hp, z = wI h58 (rf h58 v0 8) (Int32.toNatClampNeg (((12 * ((3 * v1) + v2)) + (3 * (kI h55 (rf h55 v0 7) (Int32.toNatClampNeg ((3 * v1) + v2))))) + 1)) v4 := ⟨_, rfl⟩
                  replace F := F h59 eh59
                  refine x_iastore hG hM d_Mo_effect_154 c79 c80 ?_
                  rw [← eh59]
                  clear eh59
                  refine x_aload_n hM d_Mo_effect_155 rfl 2 rfl ?_
                  obtain ⟨c77, F⟩ := F
                  obtain ⟨c78, F⟩ := F
                  refine x_getr hG hM ck_Mo 8 (Nat.le_of_ble_eq_true rfl) rfl rfl w_905 rfl d_Mo_effect_156 c77 c78 ?_
                  refine x_iload hM d_Mo_effect_159 0 rfl ?_
                  refine x_iconst (v := 2) hM d_Mo_effect_161 (by decide) ?_
                  refine x_iadd hM d_Mo_effect_162 ?_
                  refine x_iload hM d_Mo_effect_163 7 rfl ?_
                  obtain ⟨c75, F⟩ := F
                  obtain ⟨c76, F⟩ := F
                  obtain ⟨h60, eh60⟩ : ∃ z : Hp, z = wI h59 (rf h59 v0 8) (Int32.toNatClampNeg (((12 * ((3 * v1) + v2)) + (3 * (kI h55 (rf h55 v0 7) (Int32.toNatClampNeg ((3 * v1) + v2))))) + 2)) v5 := ⟨_, rfl⟩
                  replace F := F h60 eh60
                  refine x_iastore hG hM d_Mo_effect_165 c75 c76 ?_
                  rw [← eh60]
                  clear eh60
                  refine x_aload_n hM d_Mo_effect_166 rfl 2 rfl ?_
                  obtain ⟨c73, F⟩ := F
                  obtain ⟨c74, F⟩ := F
                  refine x_getr hG hM ck_Mo 7 (Nat.le_of_ble_eq_true rfl) rfl rfl w_904 rfl d_Mo_effect_167 c73 c74 ?_
                  refine x_iload hM d_Mo_effect_170 1 rfl ?_
                  refine x_dup2 hM d_Mo_effect_172 rfl rfl ?_
                  obtain ⟨c71, F⟩ := F
                  obtain ⟨c72, F⟩ := F
                  refine x_iaload hG hM d_Mo_effect_173 c71 c72 ?_
                  refine x_iconst (v := 1) hM d_Mo_effect_174 (by decide) ?_
                  refine x_iadd hM d_Mo_effect_175 ?_
                  obtain ⟨c69, F⟩ := F
                  obtain ⟨c70, F⟩ := F
                  obtain ⟨h61, eh61⟩ : ∃ z : Hp, z = wI h60 (rf h60 v0 7) (Int32.toNatClampNeg ((3 * v1) + v2)) ((kI h60 (rf h60 v0 7) (Int32.toNatClampNeg ((3 * v1) + v2))) + 1) := ⟨_, rfl⟩
                  replace F := F h61 eh61
                  refine x_iastore hG hM d_Mo_effect_176 c69 c70 ?_
                  rw [← eh61]
                  clear eh61
                  refine x_aload_n hM d_Mo_effect_177 rfl 2 rfl ?_
                  obtain ⟨c68, F⟩ := F
                  refine x_callV hG hM (r' := r_Mo_forget) (ci := 11) [] rfl rfl (Nat.le_of_ble_eq_true rfl) yk_Mo_forget ⟨Nat.le_of_ble_eq_true rfl, Nat.le_of_ble_eq_true rfl⟩ w_893 w_895 ws_Mo_forget rfl rfl (Nat.le_of_ble_eq_true rfl) d_Mo_effect_178 c68 (sem_mono F ?_)
                  intro u63 h62 F
                  obtain ⟨rfl, F⟩ := F
                  refine x_aload_n hM d_Mo_effect_181 rfl 2 rfl ?_
                  obtain ⟨c66, F⟩ := F
                  obtain ⟨c67, F⟩ := F
                  refine x_getr hG hM ck_Mo 7 (Nat.le_of_ble_eq_true rfl) rfl rfl w_904 rfl d_Mo_effect_182 c66 c67 ?_
                  refine x_iload hM d_Mo_effect_185 1 rfl ?_
                  obtain ⟨c64, F⟩ := F
                  obtain ⟨c65, F⟩ := F
                  refine x_iaload hG hM d_Mo_effect_187 c64 c65 ?_
                  exact x_ireturn hM d_Mo_effect_188 rfl F
                · replace F := F.1 q91
                  refine x_bipush (v := (-3)) hM d_Mo_effect_116 (by decide) ?_
                  exact x_ireturn hM d_Mo_effect_118 rfl F
              · replace F := F.1 q96
                refine x_goto (tgt := 95) hM d_Mo_effect_82 (by decide) ?_
                refine x_bipush (v := (-2)) hM d_Mo_effect_95 (by decide) ?_
                exact x_ireturn hM d_Mo_effect_97 rfl F
          · replace F := F.1 q145
            refine x_iload hM d_Mo_effect_47 5 rfl ?_
            refine x_iconst (v := 0) hM d_Mo_effect_49 (by decide) ?_
            refine x_aload_n hM d_Mo_effect_50 rfl 0 rfl ?_
            obtain ⟨c143, F⟩ := F
            obtain ⟨c144, F⟩ := F
            refine x_getr hG hM ck_Mo 1 (Nat.le_of_ble_eq_true rfl) rfl rfl w_898 rfl d_Mo_effect_51 c143 c144 ?_
            refine x_iload_n hM d_Mo_effect_54 rfl 3 rfl ?_
            obtain ⟨c141, F⟩ := F
            obtain ⟨c142, F⟩ := F
            refine x_iaload hG hM d_Mo_effect_55 c141 c142 ?_
            refine x_iconst (v := 1) hM d_Mo_effect_56 (by decide) ?_
            refine x_isub hM d_Mo_effect_57 ?_
            refine x_callS hG hM (r' := r_Mo_isIn) [.int v5, .int 0, .int ((kI h10 (rf h10 v0 1) (Int32.toNatClampNeg v3)) - 1)] rfl yk_Mo_isIn ⟨Nat.le_of_ble_eq_true rfl, Nat.le_of_ble_eq_true rfl⟩ w_1017 w_1018 rfl rfl (Nat.le_of_ble_eq_true rfl) d_Mo_effect_58 (sem_mono F ?_)
            intro u100 h99 F
            obtain ⟨x101, rfl, F⟩ := F
            refine x_if_ne (tgt := 98) hM d_Mo_effect_61 (by decide) (fun q140 => ?_) (fun q140 => ?_)
            · replace F := F.2 q140
              refine x_iconst (v := 3) hM d_Mo_effect_98 (by decide) ?_
              refine x_iload_n hM d_Mo_effect_99 rfl 1 rfl ?_
              refine x_imul hM d_Mo_effect_100 ?_
              refine x_iload_n hM d_Mo_effect_101 rfl 2 rfl ?_
              refine x_iadd hM d_Mo_effect_102 ?_
              refine x_istore (lv2 := [(6, .int ((3 * v1) + v2)), (0, .ref v0), (1, .int v1), (2, .int v2), (3, .int v3), (4, .int v4), (5, .int v5)]) hM d_Mo_effect_103 (Nat.le_of_ble_eq_true rfl) rfl ?_
              refine x_aload_n hM d_Mo_effect_105 rfl 1 rfl ?_
              obtain ⟨c138, F⟩ := F
              obtain ⟨c139, F⟩ := F
              refine x_getr hG hM ck_Mo 7 (Nat.le_of_ble_eq_true rfl) rfl rfl w_904 rfl d_Mo_effect_106 c138 c139 ?_
              refine x_iload hM d_Mo_effect_109 0 rfl ?_
              obtain ⟨c136, F⟩ := F
              obtain ⟨c137, F⟩ := F
              refine x_iaload hG hM d_Mo_effect_111 c136 c137 ?_
              refine x_iconst (v := 4) hM d_Mo_effect_112 (by decide) ?_
              refine x_icmp_ne (tgt := 119) hM d_Mo_effect_113 (by decide) (fun q135 => ?_) (fun q135 => ?_)
              · replace F := F.2 q135
                refine x_bipush (v := 12) hM d_Mo_effect_119 (by decide) ?_
                refine x_iload hM d_Mo_effect_121 0 rfl ?_
                refine x_imul hM d_Mo_effect_123 ?_
                refine x_iconst (v := 3) hM d_Mo_effect_124 (by decide) ?_
                refine x_aload_n hM d_Mo_effect_125 rfl 1 rfl ?_
                obtain ⟨c133, F⟩ := F
                obtain ⟨c134, F⟩ := F
                refine x_getr hG hM ck_Mo 7 (Nat.le_of_ble_eq_true rfl) rfl rfl w_904 rfl d_Mo_effect_126 c133 c134 ?_
                refine x_iload hM d_Mo_effect_129 0 rfl ?_
                obtain ⟨c131, F⟩ := F
                obtain ⟨c132, F⟩ := F
                refine x_iaload hG hM d_Mo_effect_131 c131 c132 ?_
                refine x_imul hM d_Mo_effect_132 ?_
                refine x_iadd hM d_Mo_effect_133 ?_
                refine x_istore (lv2 := [(7, .int ((12 * ((3 * v1) + v2)) + (3 * (kI h99 (rf h99 v0 7) (Int32.toNatClampNeg ((3 * v1) + v2)))))), (6, .int ((3 * v1) + v2)), (0, .ref v0), (1, .int v1), (2, .int v2), (3, .int v3), (4, .int v4), (5, .int v5)]) hM d_Mo_effect_134 (Nat.le_of_ble_eq_true rfl) rfl ?_
                refine x_aload_n hM d_Mo_effect_136 rfl 2 rfl ?_
                obtain ⟨c129, F⟩ := F
                obtain ⟨c130, F⟩ := F
                refine x_getr hG hM ck_Mo 8 (Nat.le_of_ble_eq_true rfl) rfl rfl w_905 rfl d_Mo_effect_137 c129 c130 ?_
                refine x_iload hM d_Mo_effect_140 0 rfl ?_
                refine x_iload_n hM d_Mo_effect_142 rfl 5 rfl ?_
                obtain ⟨c127, F⟩ := F
                obtain ⟨c128, F⟩ := F
                obtain ⟨h102, eh102⟩ : ∃ z : Hp, z = wI h99 (rf h99 v0 8) (Int32.toNatClampNeg ((12 * ((3 * v1) + v2)) + (3 * (kI h99 (rf h99 v0 7) (Int32.toNatClampNeg ((3 * v1) + v2)))))) v3 := ⟨_, rfl⟩
                replace F := F h102 eh102
                refine x_iastore hG hM d_Mo_effect_143 c127 c128 ?_
                rw [← eh102]
                clear eh102
                refine x_aload_n hM d_Mo_effect_144 rfl 2 rfl ?_
                obtain ⟨c125, F⟩ := F
                obtain ⟨c126, F⟩ := F
                refine x_getr hG hM ck_Mo 8 (Nat.le_of_ble_eq_true rfl) rfl rfl w_905 rfl d_Mo_effect_145 c125 c126 ?_
                refine x_iload hM d_Mo_effect_148 0 rfl ?_
                refine x_iconst (v := 1) hM d_Mo_effect_150 (by decide) ?_
                refine x_iadd hM d_Mo_effect_151 ?_
                refine x_iload hM d_Mo_effect_152 6 rfl ?_
                obtain ⟨c123, F⟩ := F
                obtain ⟨c124, F⟩ := F
                obtain ⟨h103, eh103⟩ : ∃ z : Hp, z = wI h102 (rf h102 v0 8) (Int32.toNatClampNeg (((12 * ((3 * v1) + v2)) + (3 * (kI h99 (rf h99 v0 7) (Int32.toNatClampNeg ((3 * v1) + v2))))) + 1)) v4 := ⟨_, rfl⟩
                replace F := F h103 eh103
                refine x_iastore hG hM d_Mo_effect_154 c123 c124 ?_
                rw [← eh103]
                clear eh103
                refine x_aload_n hM d_Mo_effect_155 rfl 2 rfl ?_
                obtain ⟨c121, F⟩ := F
                obtain ⟨c122, F⟩ := F
                refine x_getr hG hM ck_Mo 8 (Nat.le_of_ble_eq_true rfl) rfl rfl w_905 rfl d_Mo_effect_156 c121 c122 ?_
                refine x_iload hM d_Mo_effect_159 0 rfl ?_
                refine x_iconst (v := 2) hM d_Mo_effect_161 (by decide) ?_
                refine x_iadd hM d_Mo_effect_162 ?_
                refine x_iload hM d_Mo_effect_163 7 rfl ?_
                obtain ⟨c119, F⟩ := F
                obtain ⟨c120, F⟩ := F
                obtain ⟨h104, eh104⟩ : ∃ z : Hp, z = wI h103 (rf h103 v0 8) (Int32.toNatClampNeg (((12 * ((3 * v1) + v2)) + (3 * (kI h99 (rf h99 v0 7) (Int32.toNatClampNeg ((3 * v1) + v2))))) + 2)) v5 := ⟨_, rfl⟩
                replace F := F h104 eh104
                refine x_iastore hG hM d_Mo_effect_165 c119 c120 ?_
                rw [← eh104]
                clear eh104
                refine x_aload_n hM d_Mo_effect_166 rfl 2 rfl ?_
                obtain ⟨c117, F⟩ := F
                obtain ⟨c118, F⟩ := F
                refine x_getr hG hM ck_Mo 7 (Nat.le_of_ble_eq_true rfl) rfl rfl w_904 rfl d_Mo_effect_167 c117 c118 ?_
                refine x_iload hM d_Mo_effect_170 1 rfl ?_
                refine x_dup2 hM d_Mo_effect_172 rfl rfl ?_
                obtain ⟨c115, F⟩ := F
                obtain ⟨c116, F⟩ := F
                refine x_iaload hG hM d_Mo_effect_173 c115 c116 ?_
                refine x_iconst (v := 1) hM d_Mo_effect_174 (by decide) ?_
                refine x_iadd hM d_Mo_effect_175 ?_
                obtain ⟨c113, F⟩ := F
                obtain ⟨c114, F⟩ := F
                obtain ⟨h105, eh105⟩ : ∃ z : Hp, z = wI h104 (rf h104 v0 7) (Int32.toNatClampNeg ((3 * v1) + v2)) ((kI h104 (rf h104 v0 7) (Int32.toNatClampNeg ((3 * v1) + v2))) + 1) := ⟨_, rfl⟩
                replace F := F h105 eh105
                refine x_iastore hG hM d_Mo_effect_176 c113 c114 ?_
                rw [← eh105]
                clear eh105
                refine x_aload_n hM d_Mo_effect_177 rfl 2 rfl ?_
                obtain ⟨c112, F⟩ := F
                refine x_callV hG hM (r' := r_Mo_forget) (ci := 11) [] rfl rfl (Nat.le_of_ble_eq_true rfl) yk_Mo_forget ⟨Nat.le_of_ble_eq_true rfl, Nat.le_of_ble_eq_true rfl⟩ w_893 w_895 ws_Mo_forget rfl rfl (Nat.le_of_ble_eq_true rfl) d_Mo_effect_178 c112 (sem_mono F ?_)
                intro u107 h106 F
                obtain ⟨rfl, F⟩ := F
                refine x_aload_n hM d_Mo_effect_181 rfl 2 rfl ?_
                obtain ⟨c110, F⟩ := F
                obtain ⟨c111, F⟩ := F
                refine x_getr hG hM ck_Mo 7 (Nat.le_of_ble_eq_true rfl) rfl rfl w_904 rfl d_Mo_effect_182 c110 c111 ?_
                refine x_iload hM d_Mo_effect_185 1 rfl ?_
                obtain ⟨c108, F⟩ := F
                obtain ⟨c109, F⟩ := F
                refine x_iaload hG hM d_Mo_effect_187 c108 c109 ?_
                exact x_ireturn hM d_Mo_effect_188 rfl F
              · replace F := F.1 q135
                refine x_bipush (v := (-3)) hM d_Mo_effect_116 (by decide) ?_
                exact x_ireturn hM d_Mo_effect_118 rfl F
            · replace F := F.1 q140
              refine x_goto (tgt := 95) hM d_Mo_effect_64 (by decide) ?_
              refine x_bipush (v := (-2)) hM d_Mo_effect_95 (by decide) ?_
              exact x_ireturn hM d_Mo_effect_97 rfl F
theorem d_Mo_unact_0 : decode b_Mo_unact 0 = .ok (.aload_n 0, 1) := by decide +kernel
theorem d_Mo_unact_1 : decode b_Mo_unact 1 = .ok (.getfield 112, 3) := by decide +kernel
theorem d_Mo_unact_4 : decode b_Mo_unact 4 = .ok (.ifCond .ne 5, 3) := by decide +kernel
theorem d_Mo_unact_7 : decode b_Mo_unact 7 = .ok (.iconst (-1), 1) := by decide +kernel
theorem d_Mo_unact_8 : decode b_Mo_unact 8 = .ok (.ireturn, 1) := by decide +kernel
theorem d_Mo_unact_9 : decode b_Mo_unact 9 = .ok (.aload_n 0, 1) := by decide +kernel
theorem d_Mo_unact_10 : decode b_Mo_unact 10 = .ok (.dup, 1) := by decide +kernel
theorem d_Mo_unact_11 : decode b_Mo_unact 11 = .ok (.getfield 112, 3) := by decide +kernel
theorem d_Mo_unact_14 : decode b_Mo_unact 14 = .ok (.iconst 1, 1) := by decide +kernel
theorem d_Mo_unact_15 : decode b_Mo_unact 15 = .ok (.isub, 1) := by decide +kernel
theorem d_Mo_unact_16 : decode b_Mo_unact 16 = .ok (.putfield 112, 3) := by decide +kernel
theorem d_Mo_unact_19 : decode b_Mo_unact 19 = .ok (.aload_n 0, 1) := by decide +kernel
theorem d_Mo_unact_20 : decode b_Mo_unact 20 = .ok (.invokevirtual 95, 3) := by decide +kernel
theorem d_Mo_unact_23 : decode b_Mo_unact 23 = .ok (.aload_n 0, 1) := by decide +kernel
theorem d_Mo_unact_24 : decode b_Mo_unact 24 = .ok (.getfield 112, 3) := by decide +kernel
theorem d_Mo_unact_27 : decode b_Mo_unact 27 = .ok (.ireturn, 1) := by decide +kernel
set_option maxRecDepth 100000 in
set_option maxHeartbeats 4000000 in
theorem S_Mo_unact_0 {G : Gc} {M : Mc} {Q : State → Prop} {K : Option Value → Hp → Prop} (hG : gok G) (hM : mok G M r_Mo_unact Q K) (v0 : Nat) (h : Hp) (F : kT h v0 = 12 ∧ (((kI h v0 3) = 0 → K (some (.int (-1))) h) ∧ (¬ (kI h v0 3) = 0 → (kT h v0 = 12 ∧ (kT h v0 = 12 ∧ (∀ h1 : Hp, h1 = wI h v0 3 ((kI h v0 3) - 1) → (kT h1 v0 = 12 ∧ sem G r_Mo_forget [.ref v0] h1 (fun u3 h2 => u3 = none ∧ (kT h2 v0 = 12 ∧ K (some (.int (kI h2 v0 3))) h2))))))))) : X G M Q 0 [(0, .ref v0)] [] h := by
  refine x_aload_n hM d_Mo_unact_0 rfl 0 rfl ?_
  obtain ⟨c9, F⟩ := F
  refine x_geti hG hM ck_Mo 3 (Nat.le_of_ble_eq_true rfl) rfl rfl w_900 rfl d_Mo_unact_1 c9 ?_
  refine x_if_ne (tgt := 9) hM d_Mo_unact_4 (by decide) (fun q8 => ?_) (fun q8 => ?_)
  · replace F := F.2 q8
    refine x_aload_n hM d_Mo_unact_9 rfl 0 rfl ?_
    refine x_dup hM d_Mo_unact_10 rfl ?_
    obtain ⟨c7, F⟩ := F
    refine x_geti hG hM ck_Mo 3 (Nat.le_of_ble_eq_true rfl) rfl rfl w_900 rfl d_Mo_unact_11 c7 ?_
    refine x_iconst (v := 1) hM d_Mo_unact_14 (by decide) ?_
    refine x_isub hM d_Mo_unact_15 ?_
    obtain ⟨c6, F⟩ := F
    obtain ⟨h1, eh1⟩ : ∃ z : Hp, z = wI h v0 3 ((kI h v0 3) - 1) := ⟨_, rfl⟩
    replace F := F h1 eh1
    refine x_puti hG hM ck_Mo 3 (Nat.le_of_ble_eq_true rfl) rfl rfl w_900 rfl d_Mo_unact_16 (Or.inl rfl) c6 ?_
    rw [← eh1]
    clear eh1
    refine x_aload_n hM d_Mo_unact_19 rfl 0 rfl ?_
    obtain ⟨c5, F⟩ := F
    refine x_callV hG hM (r' := r_Mo_forget) (ci := 11) [] rfl rfl (Nat.le_of_ble_eq_true rfl) yk_Mo_forget ⟨Nat.le_of_ble_eq_true rfl, Nat.le_of_ble_eq_true rfl⟩ w_893 w_895 ws_Mo_forget rfl rfl (Nat.le_of_ble_eq_true rfl) d_Mo_unact_20 c5 (sem_mono F ?_)
    intro u3 h2 F
    obtain ⟨rfl, F⟩ := F
    refine x_aload_n hM d_Mo_unact_23 rfl 0 rfl ?_
    obtain ⟨c4, F⟩ := F
    refine x_geti hG hM ck_Mo 3 (Nat.le_of_ble_eq_true rfl) rfl rfl w_900 rfl d_Mo_unact_24 c4 ?_
    exact x_ireturn hM d_Mo_unact_27 rfl F
  · replace F := F.1 q8
    refine x_iconst (v := (-1)) hM d_Mo_unact_7 (by decide) ?_
    exact x_ireturn hM d_Mo_unact_8 rfl F
theorem d_Mo_cover_0 : decode b_Mo_cover 0 = .ok (.aload_n 0, 1) := by decide +kernel
theorem d_Mo_cover_1 : decode b_Mo_cover 1 = .ok (.getfield 115, 3) := by decide +kernel
theorem d_Mo_cover_4 : decode b_Mo_cover 4 = .ok (.bipush 6, 2) := by decide +kernel
theorem d_Mo_cover_6 : decode b_Mo_cover 6 = .ok (.if_icmp .ne 6, 3) := by decide +kernel
theorem d_Mo_cover_9 : decode b_Mo_cover 9 = .ok (.bipush (-3), 2) := by decide +kernel
theorem d_Mo_cover_11 : decode b_Mo_cover 11 = .ok (.ireturn, 1) := by decide +kernel
theorem d_Mo_cover_12 : decode b_Mo_cover 12 = .ok (.aload_n 0, 1) := by decide +kernel
theorem d_Mo_cover_13 : decode b_Mo_cover 13 = .ok (.getfield 16, 3) := by decide +kernel
theorem d_Mo_cover_16 : decode b_Mo_cover 16 = .ok (.bipush 13, 2) := by decide +kernel
theorem d_Mo_cover_18 : decode b_Mo_cover 18 = .ok (.aload_n 0, 1) := by decide +kernel
theorem d_Mo_cover_19 : decode b_Mo_cover 19 = .ok (.getfield 115, 3) := by decide +kernel
theorem d_Mo_cover_22 : decode b_Mo_cover 22 = .ok (.iadd, 1) := by decide +kernel
theorem d_Mo_cover_23 : decode b_Mo_cover 23 = .ok (.iconst 0, 1) := by decide +kernel
theorem d_Mo_cover_24 : decode b_Mo_cover 24 = .ok (.iastore, 1) := by decide +kernel
theorem d_Mo_cover_25 : decode b_Mo_cover 25 = .ok (.aload_n 0, 1) := by decide +kernel
theorem d_Mo_cover_26 : decode b_Mo_cover 26 = .ok (.dup, 1) := by decide +kernel
theorem d_Mo_cover_27 : decode b_Mo_cover 27 = .ok (.getfield 115, 3) := by decide +kernel
theorem d_Mo_cover_30 : decode b_Mo_cover 30 = .ok (.iconst 1, 1) := by decide +kernel
theorem d_Mo_cover_31 : decode b_Mo_cover 31 = .ok (.iadd, 1) := by decide +kernel
theorem d_Mo_cover_32 : decode b_Mo_cover 32 = .ok (.putfield 115, 3) := by decide +kernel
theorem d_Mo_cover_35 : decode b_Mo_cover 35 = .ok (.aload_n 0, 1) := by decide +kernel
theorem d_Mo_cover_36 : decode b_Mo_cover 36 = .ok (.getfield 115, 3) := by decide +kernel
theorem d_Mo_cover_39 : decode b_Mo_cover 39 = .ok (.iconst 1, 1) := by decide +kernel
theorem d_Mo_cover_40 : decode b_Mo_cover 40 = .ok (.isub, 1) := by decide +kernel
theorem d_Mo_cover_41 : decode b_Mo_cover 41 = .ok (.ireturn, 1) := by decide +kernel
set_option maxRecDepth 100000 in
set_option maxHeartbeats 4000000 in
theorem S_Mo_cover_0 {G : Gc} {M : Mc} {Q : State → Prop} {K : Option Value → Hp → Prop} (hG : gok G) (hM : mok G M r_Mo_cover Q K) (v0 : Nat) (h : Hp) (F : kT h v0 = 12 ∧ (((kI h v0 9) = 6 → K (some (.int (-3))) h) ∧ (¬ (kI h v0 9) = 6 → (kT h v0 = 12 ∧ kR h v0 5 = some (rf h v0 5) ∧ (kT h v0 = 12 ∧ (kT h (rf h v0 5) = 50 ∧ vp_in (13 + (kI h v0 9)) (kN h (rf h v0 5)) ∧ (∀ h1 : Hp, h1 = wI h (rf h v0 5) (Int32.toNatClampNeg (13 + (kI h v0 9))) 0 → (kT h1 v0 = 12 ∧ (kT h1 v0 = 12 ∧ (∀ h2 : Hp, h2 = wI h1 v0 9 ((kI h1 v0 9) + 1) → (kT h2 v0 = 12 ∧ K (some (.int ((kI h2 v0 9) - 1))) h2))))))))))) : X G M Q 0 [(0, .ref v0)] [] h := by
  refine x_aload_n hM d_Mo_cover_0 rfl 0 rfl ?_
  obtain ⟨c12, F⟩ := F
  refine x_geti hG hM ck_Mo 9 (Nat.le_of_ble_eq_true rfl) rfl rfl w_906 rfl d_Mo_cover_1 c12 ?_
  refine x_bipush (v := 6) hM d_Mo_cover_4 (by decide) ?_
  refine x_icmp_ne (tgt := 12) hM d_Mo_cover_6 (by decide) (fun q11 => ?_) (fun q11 => ?_)
  · replace F := F.2 q11
    refine x_aload_n hM d_Mo_cover_12 rfl 0 rfl ?_
    obtain ⟨c9, F⟩ := F
    obtain ⟨c10, F⟩ := F
    refine x_getr hG hM ck_Mo 5 (Nat.le_of_ble_eq_true rfl) rfl rfl w_902 rfl d_Mo_cover_13 c9 c10 ?_
    refine x_bipush (v := 13) hM d_Mo_cover_16 (by decide) ?_
    refine x_aload_n hM d_Mo_cover_18 rfl 0 rfl ?_
    obtain ⟨c8, F⟩ := F
    refine x_geti hG hM ck_Mo 9 (Nat.le_of_ble_eq_true rfl) rfl rfl w_906 rfl d_Mo_cover_19 c8 ?_
    refine x_iadd hM d_Mo_cover_22 ?_
    refine x_iconst (v := 0) hM d_Mo_cover_23 (by decide) ?_
    obtain ⟨c6, F⟩ := F
    obtain ⟨c7, F⟩ := F
    obtain ⟨h1, eh1⟩ : ∃ z : Hp, z = wI h (rf h v0 5) (Int32.toNatClampNeg (13 + (kI h v0 9))) 0 := ⟨_, rfl⟩
    replace F := F h1 eh1
    refine x_iastore hG hM d_Mo_cover_24 c6 c7 ?_
    rw [← eh1]
    clear eh1
    refine x_aload_n hM d_Mo_cover_25 rfl 0 rfl ?_
    refine x_dup hM d_Mo_cover_26 rfl ?_
    obtain ⟨c5, F⟩ := F
    refine x_geti hG hM ck_Mo 9 (Nat.le_of_ble_eq_true rfl) rfl rfl w_906 rfl d_Mo_cover_27 c5 ?_
    refine x_iconst (v := 1) hM d_Mo_cover_30 (by decide) ?_
    refine x_iadd hM d_Mo_cover_31 ?_
    obtain ⟨c4, F⟩ := F
    obtain ⟨h2, eh2⟩ : ∃ z : Hp, z = wI h1 v0 9 ((kI h1 v0 9) + 1) := ⟨_, rfl⟩
    replace F := F h2 eh2
    refine x_puti hG hM ck_Mo 9 (Nat.le_of_ble_eq_true rfl) rfl rfl w_906 rfl d_Mo_cover_32 (Or.inl rfl) c4 ?_
    rw [← eh2]
    clear eh2
    refine x_aload_n hM d_Mo_cover_35 rfl 0 rfl ?_
    obtain ⟨c3, F⟩ := F
    refine x_geti hG hM ck_Mo 9 (Nat.le_of_ble_eq_true rfl) rfl rfl w_906 rfl d_Mo_cover_36 c3 ?_
    refine x_iconst (v := 1) hM d_Mo_cover_39 (by decide) ?_
    refine x_isub hM d_Mo_cover_40 ?_
    exact x_ireturn hM d_Mo_cover_41 rfl F
  · replace F := F.1 q11
    refine x_bipush (v := (-3)) hM d_Mo_cover_9 (by decide) ?_
    exact x_ireturn hM d_Mo_cover_11 rfl F
theorem d_Mo_part_0 : decode b_Mo_part 0 = .ok (.iload_n 1, 1) := by decide +kernel
theorem d_Mo_part_1 : decode b_Mo_part 1 = .ok (.iconst 0, 1) := by decide +kernel
theorem d_Mo_part_2 : decode b_Mo_part 2 = .ok (.aload_n 0, 1) := by decide +kernel
theorem d_Mo_part_3 : decode b_Mo_part 3 = .ok (.getfield 115, 3) := by decide +kernel
theorem d_Mo_part_6 : decode b_Mo_part 6 = .ok (.iconst 1, 1) := by decide +kernel
theorem d_Mo_part_7 : decode b_Mo_part 7 = .ok (.isub, 1) := by decide +kernel
theorem d_Mo_part_8 : decode b_Mo_part 8 = .ok (.invokestatic 118, 3) := by decide +kernel
theorem d_Mo_part_11 : decode b_Mo_part 11 = .ok (.ifCond .eq 29, 3) := by decide +kernel
theorem d_Mo_part_14 : decode b_Mo_part 14 = .ok (.aload_n 0, 1) := by decide +kernel
theorem d_Mo_part_15 : decode b_Mo_part 15 = .ok (.iload_n 2, 1) := by decide +kernel
theorem d_Mo_part_16 : decode b_Mo_part 16 = .ok (.iload_n 3, 1) := by decide +kernel
theorem d_Mo_part_17 : decode b_Mo_part 17 = .ok (.iload 4, 2) := by decide +kernel
theorem d_Mo_part_19 : decode b_Mo_part 19 = .ok (.invokevirtual 136, 3) := by decide +kernel
theorem d_Mo_part_22 : decode b_Mo_part 22 = .ok (.ifCond .eq 18, 3) := by decide +kernel
theorem d_Mo_part_25 : decode b_Mo_part 25 = .ok (.aload_n 0, 1) := by decide +kernel
theorem d_Mo_part_26 : decode b_Mo_part 26 = .ok (.bipush 13, 2) := by decide +kernel
theorem d_Mo_part_28 : decode b_Mo_part 28 = .ok (.iload_n 1, 1) := by decide +kernel
theorem d_Mo_part_29 : decode b_Mo_part 29 = .ok (.iadd, 1) := by decide +kernel
theorem d_Mo_part_30 : decode b_Mo_part 30 = .ok (.iload_n 2, 1) := by decide +kernel
theorem d_Mo_part_31 : decode b_Mo_part 31 = .ok (.iload_n 3, 1) := by decide +kernel
theorem d_Mo_part_32 : decode b_Mo_part 32 = .ok (.iload 4, 2) := by decide +kernel
theorem d_Mo_part_34 : decode b_Mo_part 34 = .ok (.invokevirtual 139, 3) := by decide +kernel
theorem d_Mo_part_37 : decode b_Mo_part 37 = .ok (.goto 5, 3) := by decide +kernel
theorem d_Mo_part_40 : decode b_Mo_part 40 = .ok (.bipush (-2), 2) := by decide +kernel
theorem d_Mo_part_42 : decode b_Mo_part 42 = .ok (.ireturn, 1) := by decide +kernel
set_option maxRecDepth 100000 in
set_option maxHeartbeats 4000000 in
theorem S_Mo_part_0 {G : Gc} {M : Mc} {Q : State → Prop} {K : Option Value → Hp → Prop} (hG : gok G) (hM : mok G M r_Mo_part Q K) (v0 : Nat) (v1 : Int32) (v2 : Int32) (v3 : Int32) (v4 : Int32) (h : Hp) (F : kT h v0 = 12 ∧ (sem G r_Mo_isIn [.int v1, .int 0, .int ((kI h v0 9) - 1)] h (fun u2 h1 => ∃ x3 : Int32, u2 = some (.int x3) ∧ ((x3 = 0 → K (some (.int (-2))) h1) ∧ (¬ x3 = 0 → (kT h1 v0 = 12 ∧ sem G r_Mo_isCondition [.ref v0, .int v2, .int v3, .int v4] h1 (fun u5 h4 => ∃ x6 : Int32, u5 = some (.int x6) ∧ ((x6 = 0 → K (some (.int (-2))) h4) ∧ (¬ x6 = 0 → (kT h4 v0 = 12 ∧ sem G r_Mo_more [.ref v0, .int (13 + v1), .int v2, .int v3, .int v4] h4 (fun u8 h7 => ∃ x9 : Int32, u8 = some (.int x9) ∧ K (some (.int x9)) h7))))))))))) : X G M Q 0 [(0, .ref v0), (1, .int v1), (2, .int v2), (3, .int v3), (4, .int v4)] [] h := by
  refine x_iload_n hM d_Mo_part_0 rfl 1 rfl ?_
  refine x_iconst (v := 0) hM d_Mo_part_1 (by decide) ?_
  refine x_aload_n hM d_Mo_part_2 rfl 0 rfl ?_
  obtain ⟨c14, F⟩ := F
  refine x_geti hG hM ck_Mo 9 (Nat.le_of_ble_eq_true rfl) rfl rfl w_906 rfl d_Mo_part_3 c14 ?_
  refine x_iconst (v := 1) hM d_Mo_part_6 (by decide) ?_
  refine x_isub hM d_Mo_part_7 ?_
  refine x_callS hG hM (r' := r_Mo_isIn) [.int v1, .int 0, .int ((kI h v0 9) - 1)] rfl yk_Mo_isIn ⟨Nat.le_of_ble_eq_true rfl, Nat.le_of_ble_eq_true rfl⟩ w_1017 w_1018 rfl rfl (Nat.le_of_ble_eq_true rfl) d_Mo_part_8 (sem_mono F ?_)
  intro u2 h1 F
  obtain ⟨x3, rfl, F⟩ := F
  refine x_if_eq (tgt := 40) hM d_Mo_part_11 (by decide) (fun q13 => ?_) (fun q13 => ?_)
  · replace F := F.1 q13
    refine x_bipush (v := (-2)) hM d_Mo_part_40 (by decide) ?_
    exact x_ireturn hM d_Mo_part_42 rfl F
  · replace F := F.2 q13
    refine x_aload_n hM d_Mo_part_14 rfl 0 rfl ?_
    refine x_iload_n hM d_Mo_part_15 rfl 2 rfl ?_
    refine x_iload_n hM d_Mo_part_16 rfl 3 rfl ?_
    refine x_iload hM d_Mo_part_17 4 rfl ?_
    obtain ⟨c12, F⟩ := F
    refine x_callV hG hM (r' := r_Mo_isCondition) (ci := 11) [.int v2, .int v3, .int v4] rfl rfl (Nat.le_of_ble_eq_true rfl) yk_Mo_isCondition ⟨Nat.le_of_ble_eq_true rfl, Nat.le_of_ble_eq_true rfl⟩ w_1048 w_1050 ws_Mo_isCondition rfl rfl (Nat.le_of_ble_eq_true rfl) d_Mo_part_19 c12 (sem_mono F ?_)
    intro u5 h4 F
    obtain ⟨x6, rfl, F⟩ := F
    refine x_if_eq (tgt := 40) hM d_Mo_part_22 (by decide) (fun q11 => ?_) (fun q11 => ?_)
    · replace F := F.1 q11
      refine x_bipush (v := (-2)) hM d_Mo_part_40 (by decide) ?_
      exact x_ireturn hM d_Mo_part_42 rfl F
    · replace F := F.2 q11
      refine x_aload_n hM d_Mo_part_25 rfl 0 rfl ?_
      refine x_bipush (v := 13) hM d_Mo_part_26 (by decide) ?_
      refine x_iload_n hM d_Mo_part_28 rfl 1 rfl ?_
      refine x_iadd hM d_Mo_part_29 ?_
      refine x_iload_n hM d_Mo_part_30 rfl 2 rfl ?_
      refine x_iload_n hM d_Mo_part_31 rfl 3 rfl ?_
      refine x_iload hM d_Mo_part_32 4 rfl ?_
      obtain ⟨c10, F⟩ := F
      refine x_callV hG hM (r' := r_Mo_more) (ci := 11) [.int (13 + v1), .int v2, .int v3, .int v4] rfl rfl (Nat.le_of_ble_eq_true rfl) yk_Mo_more ⟨Nat.le_of_ble_eq_true rfl, Nat.le_of_ble_eq_true rfl⟩ w_1056 w_1058 ws_Mo_more rfl rfl (Nat.le_of_ble_eq_true rfl) d_Mo_part_34 c10 (sem_mono F ?_)
      intro u8 h7 F
      obtain ⟨x9, rfl, F⟩ := F
      refine x_goto (tgt := 42) hM d_Mo_part_37 (by decide) ?_
      exact x_ireturn hM d_Mo_part_42 rfl F
theorem d_Mo_bare_0 : decode b_Mo_bare 0 = .ok (.aload_n 0, 1) := by decide +kernel
theorem d_Mo_bare_1 : decode b_Mo_bare 1 = .ok (.getfield 115, 3) := by decide +kernel
theorem d_Mo_bare_4 : decode b_Mo_bare 4 = .ok (.istore_n 1, 1) := by decide +kernel
theorem d_Mo_bare_5 : decode b_Mo_bare 5 = .ok (.aload_n 0, 1) := by decide +kernel
theorem d_Mo_bare_6 : decode b_Mo_bare 6 = .ok (.iconst 0, 1) := by decide +kernel
theorem d_Mo_bare_7 : decode b_Mo_bare 7 = .ok (.putfield 115, 3) := by decide +kernel
theorem d_Mo_bare_10 : decode b_Mo_bare 10 = .ok (.iload_n 1, 1) := by decide +kernel
theorem d_Mo_bare_11 : decode b_Mo_bare 11 = .ok (.ireturn, 1) := by decide +kernel
set_option maxRecDepth 100000 in
set_option maxHeartbeats 4000000 in
theorem S_Mo_bare_0 {G : Gc} {M : Mc} {Q : State → Prop} {K : Option Value → Hp → Prop} (hG : gok G) (hM : mok G M r_Mo_bare Q K) (v0 : Nat) (h : Hp) (F : kT h v0 = 12 ∧ (kT h v0 = 12 ∧ (∀ h1 : Hp, h1 = wI h v0 9 0 → K (some (.int (kI h v0 9))) h1))) : X G M Q 0 [(0, .ref v0)] [] h := by
  refine x_aload_n hM d_Mo_bare_0 rfl 0 rfl ?_
  obtain ⟨c3, F⟩ := F
  refine x_geti hG hM ck_Mo 9 (Nat.le_of_ble_eq_true rfl) rfl rfl w_906 rfl d_Mo_bare_1 c3 ?_
  refine x_istore_n (lv2 := [(1, .int (kI h v0 9)), (0, .ref v0)]) hM d_Mo_bare_4 rfl (Nat.le_of_ble_eq_true rfl) rfl ?_
  refine x_aload_n hM d_Mo_bare_5 rfl 1 rfl ?_
  refine x_iconst (v := 0) hM d_Mo_bare_6 (by decide) ?_
  obtain ⟨c2, F⟩ := F
  obtain ⟨h1, eh1⟩ : ∃ z : Hp, z = wI h v0 9 0 := ⟨_, rfl⟩
  replace F := F h1 eh1
  refine x_puti hG hM ck_Mo 9 (Nat.le_of_ble_eq_true rfl) rfl rfl w_906 rfl d_Mo_bare_7 (Or.inl rfl) c2 ?_
  rw [← eh1]
  clear eh1
  refine x_iload_n hM d_Mo_bare_10 rfl 0 rfl ?_
  exact x_ireturn hM d_Mo_bare_11 rfl F
