theorem d_Mo_lay_0 : decode b_Mo_lay 0 = .ok (.aload_n 0, 1) := by decide +kernel
theorem d_Mo_lay_1 : decode b_Mo_lay 1 = .ok (.getfield 98, 3) := by decide +kernel
theorem d_Mo_lay_4 : decode b_Mo_lay 4 = .ok (.ifCond .eq 4, 3) := by decide +kernel
theorem d_Mo_lay_7 : decode b_Mo_lay 7 = .ok (.return_, 1) := by decide +kernel
theorem d_Mo_lay_8 : decode b_Mo_lay 8 = .ok (.aload_n 0, 1) := by decide +kernel
theorem d_Mo_lay_9 : decode b_Mo_lay 9 = .ok (.iconst 1, 1) := by decide +kernel
theorem d_Mo_lay_10 : decode b_Mo_lay 10 = .ok (.putfield 98, 3) := by decide +kernel
theorem d_Mo_lay_13 : decode b_Mo_lay 13 = .ok (.aload_n 0, 1) := by decide +kernel
theorem d_Mo_lay_14 : decode b_Mo_lay 14 = .ok (.aload_n 0, 1) := by decide +kernel
theorem d_Mo_lay_15 : decode b_Mo_lay 15 = .ok (.invokevirtual 122, 3) := by decide +kernel
theorem d_Mo_lay_18 : decode b_Mo_lay 18 = .ok (.putfield 157, 3) := by decide +kernel
theorem d_Mo_lay_21 : decode b_Mo_lay 21 = .ok (.iconst 0, 1) := by decide +kernel
theorem d_Mo_lay_22 : decode b_Mo_lay 22 = .ok (.istore_n 1, 1) := by decide +kernel
theorem d_Mo_lay_23 : decode b_Mo_lay 23 = .ok (.iload_n 1, 1) := by decide +kernel
theorem d_Mo_lay_24 : decode b_Mo_lay 24 = .ok (.aload_n 0, 1) := by decide +kernel
theorem d_Mo_lay_25 : decode b_Mo_lay 25 = .ok (.getfield 157, 3) := by decide +kernel
theorem d_Mo_lay_28 : decode b_Mo_lay 28 = .ok (.if_icmp .ge 115, 3) := by decide +kernel
theorem d_Mo_lay_31 : decode b_Mo_lay 31 = .ok (.aload_n 0, 1) := by decide +kernel
theorem d_Mo_lay_32 : decode b_Mo_lay 32 = .ok (.iload_n 1, 1) := by decide +kernel
theorem d_Mo_lay_33 : decode b_Mo_lay 33 = .ok (.invokevirtual 146, 3) := by decide +kernel
theorem d_Mo_lay_36 : decode b_Mo_lay 36 = .ok (.aload_n 0, 1) := by decide +kernel
theorem d_Mo_lay_37 : decode b_Mo_lay 37 = .ok (.getfield 38, 3) := by decide +kernel
theorem d_Mo_lay_40 : decode b_Mo_lay 40 = .ok (.iload_n 1, 1) := by decide +kernel
theorem d_Mo_lay_41 : decode b_Mo_lay 41 = .ok (.aload_n 0, 1) := by decide +kernel
theorem d_Mo_lay_42 : decode b_Mo_lay 42 = .ok (.bipush 12, 2) := by decide +kernel
theorem d_Mo_lay_44 : decode b_Mo_lay 44 = .ok (.invokevirtual 150, 3) := by decide +kernel
theorem d_Mo_lay_47 : decode b_Mo_lay 47 = .ok (.bastore, 1) := by decide +kernel
theorem d_Mo_lay_48 : decode b_Mo_lay 48 = .ok (.aload_n 0, 1) := by decide +kernel
theorem d_Mo_lay_49 : decode b_Mo_lay 49 = .ok (.getfield 42, 3) := by decide +kernel
theorem d_Mo_lay_52 : decode b_Mo_lay 52 = .ok (.iload_n 1, 1) := by decide +kernel
theorem d_Mo_lay_53 : decode b_Mo_lay 53 = .ok (.iconst (-1), 1) := by decide +kernel
theorem d_Mo_lay_54 : decode b_Mo_lay 54 = .ok (.iastore, 1) := by decide +kernel
theorem d_Mo_lay_55 : decode b_Mo_lay 55 = .ok (.iconst 0, 1) := by decide +kernel
theorem d_Mo_lay_56 : decode b_Mo_lay 56 = .ok (.istore_n 2, 1) := by decide +kernel
theorem d_Mo_lay_57 : decode b_Mo_lay 57 = .ok (.iload_n 2, 1) := by decide +kernel
theorem d_Mo_lay_58 : decode b_Mo_lay 58 = .ok (.aload_n 0, 1) := by decide +kernel
theorem d_Mo_lay_59 : decode b_Mo_lay 59 = .ok (.getfield 112, 3) := by decide +kernel
theorem d_Mo_lay_62 : decode b_Mo_lay 62 = .ok (.if_icmp .ge 75, 3) := by decide +kernel
theorem d_Mo_lay_65 : decode b_Mo_lay 65 = .ok (.aload_n 0, 1) := by decide +kernel
theorem d_Mo_lay_66 : decode b_Mo_lay 66 = .ok (.iload_n 2, 1) := by decide +kernel
theorem d_Mo_lay_67 : decode b_Mo_lay 67 = .ok (.invokevirtual 150, 3) := by decide +kernel
theorem d_Mo_lay_70 : decode b_Mo_lay 70 = .ok (.istore_n 3, 1) := by decide +kernel
theorem d_Mo_lay_71 : decode b_Mo_lay 71 = .ok (.iconst 0, 1) := by decide +kernel
theorem d_Mo_lay_72 : decode b_Mo_lay 72 = .ok (.istore 4, 2) := by decide +kernel
theorem d_Mo_lay_74 : decode b_Mo_lay 74 = .ok (.iload 4, 2) := by decide +kernel
theorem d_Mo_lay_76 : decode b_Mo_lay 76 = .ok (.iconst 3, 1) := by decide +kernel
theorem d_Mo_lay_77 : decode b_Mo_lay 77 = .ok (.if_icmp .ge 54, 3) := by decide +kernel
theorem d_Mo_lay_80 : decode b_Mo_lay 80 = .ok (.aload_n 0, 1) := by decide +kernel
theorem d_Mo_lay_81 : decode b_Mo_lay 81 = .ok (.getfield 35, 3) := by decide +kernel
theorem d_Mo_lay_84 : decode b_Mo_lay 84 = .ok (.bipush 36, 2) := by decide +kernel
theorem d_Mo_lay_86 : decode b_Mo_lay 86 = .ok (.iload_n 1, 1) := by decide +kernel
theorem d_Mo_lay_87 : decode b_Mo_lay 87 = .ok (.imul, 1) := by decide +kernel
theorem d_Mo_lay_88 : decode b_Mo_lay 88 = .ok (.iconst 3, 1) := by decide +kernel
theorem d_Mo_lay_89 : decode b_Mo_lay 89 = .ok (.iload_n 2, 1) := by decide +kernel
theorem d_Mo_lay_90 : decode b_Mo_lay 90 = .ok (.imul, 1) := by decide +kernel
theorem d_Mo_lay_91 : decode b_Mo_lay 91 = .ok (.iadd, 1) := by decide +kernel
theorem d_Mo_lay_92 : decode b_Mo_lay 92 = .ok (.iload 4, 2) := by decide +kernel
theorem d_Mo_lay_94 : decode b_Mo_lay 94 = .ok (.iadd, 1) := by decide +kernel
theorem d_Mo_lay_95 : decode b_Mo_lay 95 = .ok (.iload_n 3, 1) := by decide +kernel
theorem d_Mo_lay_96 : decode b_Mo_lay 96 = .ok (.ifCond .eq 27, 3) := by decide +kernel
theorem d_Mo_lay_99 : decode b_Mo_lay 99 = .ok (.iload 4, 2) := by decide +kernel
theorem d_Mo_lay_101 : decode b_Mo_lay 101 = .ok (.aload_n 0, 1) := by decide +kernel
theorem d_Mo_lay_102 : decode b_Mo_lay 102 = .ok (.getfield 13, 3) := by decide +kernel
theorem d_Mo_lay_105 : decode b_Mo_lay 105 = .ok (.iload_n 2, 1) := by decide +kernel
theorem d_Mo_lay_106 : decode b_Mo_lay 106 = .ok (.iaload, 1) := by decide +kernel
theorem d_Mo_lay_107 : decode b_Mo_lay 107 = .ok (.if_icmp .ge 16, 3) := by decide +kernel
theorem d_Mo_lay_110 : decode b_Mo_lay 110 = .ok (.aload_n 0, 1) := by decide +kernel
theorem d_Mo_lay_111 : decode b_Mo_lay 111 = .ok (.iconst 3, 1) := by decide +kernel
theorem d_Mo_lay_112 : decode b_Mo_lay 112 = .ok (.iload_n 2, 1) := by decide +kernel
theorem d_Mo_lay_113 : decode b_Mo_lay 113 = .ok (.imul, 1) := by decide +kernel
theorem d_Mo_lay_114 : decode b_Mo_lay 114 = .ok (.iload 4, 2) := by decide +kernel
theorem d_Mo_lay_116 : decode b_Mo_lay 116 = .ok (.iadd, 1) := by decide +kernel
theorem d_Mo_lay_117 : decode b_Mo_lay 117 = .ok (.invokevirtual 153, 3) := by decide +kernel
theorem d_Mo_lay_120 : decode b_Mo_lay 120 = .ok (.goto 4, 3) := by decide +kernel
theorem d_Mo_lay_123 : decode b_Mo_lay 123 = .ok (.iconst (-1), 1) := by decide +kernel
theorem d_Mo_lay_124 : decode b_Mo_lay 124 = .ok (.iastore, 1) := by decide +kernel
theorem d_Mo_lay_125 : decode b_Mo_lay 125 = .ok (.iinc 4 1, 3) := by decide +kernel
theorem d_Mo_lay_128 : decode b_Mo_lay 128 = .ok (.goto (-54), 3) := by decide +kernel
theorem d_Mo_lay_131 : decode b_Mo_lay 131 = .ok (.iinc 2 1, 3) := by decide +kernel
theorem d_Mo_lay_134 : decode b_Mo_lay 134 = .ok (.goto (-77), 3) := by decide +kernel
theorem d_Mo_lay_137 : decode b_Mo_lay 137 = .ok (.iinc 1 1, 3) := by decide +kernel
theorem d_Mo_lay_140 : decode b_Mo_lay 140 = .ok (.goto (-117), 3) := by decide +kernel
theorem d_Mo_lay_143 : decode b_Mo_lay 143 = .ok (.iconst 0, 1) := by decide +kernel
theorem d_Mo_lay_144 : decode b_Mo_lay 144 = .ok (.istore_n 1, 1) := by decide +kernel
theorem d_Mo_lay_145 : decode b_Mo_lay 145 = .ok (.iconst 0, 1) := by decide +kernel
theorem d_Mo_lay_146 : decode b_Mo_lay 146 = .ok (.istore_n 2, 1) := by decide +kernel
theorem d_Mo_lay_147 : decode b_Mo_lay 147 = .ok (.iload_n 2, 1) := by decide +kernel
theorem d_Mo_lay_148 : decode b_Mo_lay 148 = .ok (.aload_n 0, 1) := by decide +kernel
theorem d_Mo_lay_149 : decode b_Mo_lay 149 = .ok (.getfield 157, 3) := by decide +kernel
theorem d_Mo_lay_152 : decode b_Mo_lay 152 = .ok (.if_icmp .ge 82, 3) := by decide +kernel
theorem d_Mo_lay_155 : decode b_Mo_lay 155 = .ok (.iconst 0, 1) := by decide +kernel
theorem d_Mo_lay_156 : decode b_Mo_lay 156 = .ok (.istore_n 3, 1) := by decide +kernel
theorem d_Mo_lay_157 : decode b_Mo_lay 157 = .ok (.iload_n 3, 1) := by decide +kernel
theorem d_Mo_lay_158 : decode b_Mo_lay 158 = .ok (.iconst 3, 1) := by decide +kernel
theorem d_Mo_lay_159 : decode b_Mo_lay 159 = .ok (.aload_n 0, 1) := by decide +kernel
theorem d_Mo_lay_160 : decode b_Mo_lay 160 = .ok (.getfield 112, 3) := by decide +kernel
theorem d_Mo_lay_163 : decode b_Mo_lay 163 = .ok (.imul, 1) := by decide +kernel
theorem d_Mo_lay_164 : decode b_Mo_lay 164 = .ok (.if_icmp .ge 64, 3) := by decide +kernel
theorem d_Mo_lay_167 : decode b_Mo_lay 167 = .ok (.aload_n 0, 1) := by decide +kernel
theorem d_Mo_lay_168 : decode b_Mo_lay 168 = .ok (.getfield 35, 3) := by decide +kernel
theorem d_Mo_lay_171 : decode b_Mo_lay 171 = .ok (.bipush 36, 2) := by decide +kernel
theorem d_Mo_lay_173 : decode b_Mo_lay 173 = .ok (.iload_n 2, 1) := by decide +kernel
theorem d_Mo_lay_174 : decode b_Mo_lay 174 = .ok (.imul, 1) := by decide +kernel
theorem d_Mo_lay_175 : decode b_Mo_lay 175 = .ok (.iload_n 3, 1) := by decide +kernel
theorem d_Mo_lay_176 : decode b_Mo_lay 176 = .ok (.iadd, 1) := by decide +kernel
theorem d_Mo_lay_177 : decode b_Mo_lay 177 = .ok (.iaload, 1) := by decide +kernel
theorem d_Mo_lay_178 : decode b_Mo_lay 178 = .ok (.istore 4, 2) := by decide +kernel
theorem d_Mo_lay_180 : decode b_Mo_lay 180 = .ok (.iload 4, 2) := by decide +kernel
theorem d_Mo_lay_182 : decode b_Mo_lay 182 = .ok (.iconst (-1), 1) := by decide +kernel
theorem d_Mo_lay_183 : decode b_Mo_lay 183 = .ok (.if_icmp .eq 39, 3) := by decide +kernel
theorem d_Mo_lay_186 : decode b_Mo_lay 186 = .ok (.aload_n 0, 1) := by decide +kernel
theorem d_Mo_lay_187 : decode b_Mo_lay 187 = .ok (.getfield 45, 3) := by decide +kernel
theorem d_Mo_lay_190 : decode b_Mo_lay 190 = .ok (.iload_n 1, 1) := by decide +kernel
theorem d_Mo_lay_191 : decode b_Mo_lay 191 = .ok (.bipush 36, 2) := by decide +kernel
theorem d_Mo_lay_193 : decode b_Mo_lay 193 = .ok (.iload_n 2, 1) := by decide +kernel
theorem d_Mo_lay_194 : decode b_Mo_lay 194 = .ok (.imul, 1) := by decide +kernel
theorem d_Mo_lay_195 : decode b_Mo_lay 195 = .ok (.iload_n 3, 1) := by decide +kernel
theorem d_Mo_lay_196 : decode b_Mo_lay 196 = .ok (.iadd, 1) := by decide +kernel
theorem d_Mo_lay_197 : decode b_Mo_lay 197 = .ok (.iastore, 1) := by decide +kernel
theorem d_Mo_lay_198 : decode b_Mo_lay 198 = .ok (.aload_n 0, 1) := by decide +kernel
theorem d_Mo_lay_199 : decode b_Mo_lay 199 = .ok (.getfield 48, 3) := by decide +kernel
theorem d_Mo_lay_202 : decode b_Mo_lay 202 = .ok (.iload_n 1, 1) := by decide +kernel
theorem d_Mo_lay_203 : decode b_Mo_lay 203 = .ok (.aload_n 0, 1) := by decide +kernel
theorem d_Mo_lay_204 : decode b_Mo_lay 204 = .ok (.getfield 42, 3) := by decide +kernel
theorem d_Mo_lay_207 : decode b_Mo_lay 207 = .ok (.iload 4, 2) := by decide +kernel
theorem d_Mo_lay_209 : decode b_Mo_lay 209 = .ok (.iaload, 1) := by decide +kernel
theorem d_Mo_lay_210 : decode b_Mo_lay 210 = .ok (.iastore, 1) := by decide +kernel
theorem d_Mo_lay_211 : decode b_Mo_lay 211 = .ok (.aload_n 0, 1) := by decide +kernel
theorem d_Mo_lay_212 : decode b_Mo_lay 212 = .ok (.getfield 42, 3) := by decide +kernel
theorem d_Mo_lay_215 : decode b_Mo_lay 215 = .ok (.iload 4, 2) := by decide +kernel
theorem d_Mo_lay_217 : decode b_Mo_lay 217 = .ok (.iload_n 1, 1) := by decide +kernel
theorem d_Mo_lay_218 : decode b_Mo_lay 218 = .ok (.iastore, 1) := by decide +kernel
theorem d_Mo_lay_219 : decode b_Mo_lay 219 = .ok (.iinc 1 1, 3) := by decide +kernel
theorem d_Mo_lay_222 : decode b_Mo_lay 222 = .ok (.iinc 3 1, 3) := by decide +kernel
theorem d_Mo_lay_225 : decode b_Mo_lay 225 = .ok (.goto (-68), 3) := by decide +kernel
theorem d_Mo_lay_228 : decode b_Mo_lay 228 = .ok (.iinc 2 1, 3) := by decide +kernel
theorem d_Mo_lay_231 : decode b_Mo_lay 231 = .ok (.goto (-84), 3) := by decide +kernel
theorem d_Mo_lay_234 : decode b_Mo_lay 234 = .ok (.aload_n 0, 1) := by decide +kernel
theorem d_Mo_lay_235 : decode b_Mo_lay 235 = .ok (.invokevirtual 160, 3) := by decide +kernel
theorem d_Mo_lay_238 : decode b_Mo_lay 238 = .ok (.aload_n 0, 1) := by decide +kernel
theorem d_Mo_lay_239 : decode b_Mo_lay 239 = .ok (.invokevirtual 163, 3) := by decide +kernel
theorem d_Mo_lay_242 : decode b_Mo_lay 242 = .ok (.aload_n 0, 1) := by decide +kernel
theorem d_Mo_lay_243 : decode b_Mo_lay 243 = .ok (.invokevirtual 166, 3) := by decide +kernel
theorem d_Mo_lay_246 : decode b_Mo_lay 246 = .ok (.aload_n 0, 1) := by decide +kernel
theorem d_Mo_lay_247 : decode b_Mo_lay 247 = .ok (.invokevirtual 169, 3) := by decide +kernel
theorem d_Mo_lay_250 : decode b_Mo_lay 250 = .ok (.return_, 1) := by decide +kernel
set_option maxRecDepth 100000 in
set_option maxHeartbeats 4000000 in
theorem S_Mo_lay_0 {G : Gc} {M : Mc} {Q : State → Prop} {K : Option Value → Hp → Prop} (hG : gok G) (hM : mok G M r_Mo_lay Q K) (v0 : Nat) (h : Hp) (F : kT h v0 = 12 ∧ (((kI h v0 12) = 0 → (kT h v0 = 12 ∧ (∀ h1 : Hp, h1 = wI h v0 12 1 → (kT h1 v0 = 12 ∧ sem G r_Mo_states [.ref v0] h1 (fun u3 h2 => ∃ x4 : Int32, u3 = some (.int x4) ∧ (kT h2 v0 = 12 ∧ (∀ h5 : Hp, h5 = wI h2 v0 13 x4 → X G M Q 23 [(0, .ref v0), (1, .int 0)] [] h5))))))) ∧ (¬ (kI h v0 12) = 0 → K none h))) : X G M Q 0 [(0, .ref v0)] [] h := by
  refine x_aload_n hM d_Mo_lay_0 rfl 0 rfl ?_
  obtain ⟨c10, F⟩ := F
  refine x_geti hG hM ck_Mo 12 (Nat.le_of_ble_eq_true rfl) rfl rfl w_909 rfl d_Mo_lay_1 c10 ?_
  refine x_if_eq (tgt := 8) hM d_Mo_lay_4 (by decide) (fun q9 => ?_) (fun q9 => ?_)
  · replace F := F.1 q9
    refine x_aload_n hM d_Mo_lay_8 rfl 0 rfl ?_
    refine x_iconst (v := 1) hM d_Mo_lay_9 (by decide) ?_
    obtain ⟨c8, F⟩ := F
    obtain ⟨h1, eh1⟩ : ∃ z : Hp, z = wI h v0 12 1 := ⟨_, rfl⟩
    replace F := F h1 eh1
    refine x_putz hG hM ck_Mo 12 (Nat.le_of_ble_eq_true rfl) rfl rfl w_909 rfl d_Mo_lay_10 (Or.inl rfl) c8 (Or.inr rfl) ?_
    rw [← eh1]
    clear eh1
    refine x_aload_n hM d_Mo_lay_13 rfl 0 rfl ?_
    refine x_aload_n hM d_Mo_lay_14 rfl 0 rfl ?_
    obtain ⟨c7, F⟩ := F
    refine x_callV hG hM (r' := r_Mo_states) (ci := 11) [] rfl rfl (Nat.le_of_ble_eq_true rfl) yk_Mo_states ⟨Nat.le_of_ble_eq_true rfl, Nat.le_of_ble_eq_true rfl⟩ w_1020 w_1022 ws_Mo_states rfl rfl (Nat.le_of_ble_eq_true rfl) d_Mo_lay_15 c7 (sem_mono F ?_)
    intro u3 h2 F
    obtain ⟨x4, rfl, F⟩ := F
    obtain ⟨c6, F⟩ := F
    obtain ⟨h5, eh5⟩ : ∃ z : Hp, z = wI h2 v0 13 x4 := ⟨_, rfl⟩
    replace F := F h5 eh5
    refine x_puti hG hM ck_Mo 13 (Nat.le_of_ble_eq_true rfl) rfl rfl w_910 rfl d_Mo_lay_18 (Or.inl rfl) c6 ?_
    rw [← eh5]
    clear eh5
    refine x_iconst (v := 0) hM d_Mo_lay_21 (by decide) ?_
    refine x_istore_n (lv2 := [(1, .int 0), (0, .ref v0)]) hM d_Mo_lay_22 rfl (Nat.le_of_ble_eq_true rfl) rfl ?_
    refine x_sub [1, 0] rfl ?_
    exact F
  · replace F := F.2 q9
    exact x_return hM d_Mo_lay_7 rfl F
set_option maxRecDepth 100000 in
set_option maxHeartbeats 4000000 in
theorem S_Mo_lay_23 {G : Gc} {M : Mc} {Q : State → Prop} {K : Option Value → Hp → Prop} (hG : gok G) (hM : mok G M r_Mo_lay Q K) (v0 : Nat) (v1 : Int32) (h : Hp) (F : kT h v0 = 12 ∧ (((kI h v0 13) ≤ v1 → X G M Q 147 [(0, .ref v0), (1, .int 0), (2, .int 0)] [] h) ∧ (¬ (kI h v0 13) ≤ v1 → (kT h v0 = 12 ∧ sem G r_Mo_open [.ref v0, .int v1] h (fun u2 h1 => u2 = none ∧ (kT h1 v0 = 12 ∧ kR h1 v0 15 = some (rf h1 v0 15) ∧ (kT h1 v0 = 12 ∧ sem G r_Mo_hold [.ref v0, .int 12] h1 (fun u4 h3 => ∃ x5 : Int32, u4 = some (.int x5) ∧ (kT h3 (rf h1 v0 15) = 51 ∧ vp_in v1 (kN h3 (rf h1 v0 15)) ∧ nb x5 ∧ (∀ h6 : Hp, h6 = wI h3 (rf h1 v0 15) (Int32.toNatClampNeg v1) x5 → (kT h6 v0 = 12 ∧ kR h6 v0 16 = some (rf h6 v0 16) ∧ (kT h6 (rf h6 v0 16) = 50 ∧ vp_in v1 (kN h6 (rf h6 v0 16)) ∧ (∀ h7 : Hp, h7 = wI h6 (rf h6 v0 16) (Int32.toNatClampNeg v1) (-1) → X G M Q 57 [(0, .ref v0), (1, .int v1), (2, .int 0)] [] h7))))))))))))) : X G M Q 23 [(0, .ref v0), (1, .int v1)] [] h := by
  refine x_iload_n hM d_Mo_lay_23 rfl 1 rfl ?_
  refine x_aload_n hM d_Mo_lay_24 rfl 0 rfl ?_
  obtain ⟨c20, F⟩ := F
  refine x_geti hG hM ck_Mo 13 (Nat.le_of_ble_eq_true rfl) rfl rfl w_910 rfl d_Mo_lay_25 c20 ?_
  refine x_icmp_ge (tgt := 143) hM d_Mo_lay_28 (by decide) (fun q19 => ?_) (fun q19 => ?_)
  · replace F := F.1 q19
    refine x_iconst (v := 0) hM d_Mo_lay_143 (by decide) ?_
    refine x_istore_n (lv2 := [(1, .int 0), (0, .ref v0)]) hM d_Mo_lay_144 rfl (Nat.le_of_ble_eq_true rfl) rfl ?_
    refine x_iconst (v := 0) hM d_Mo_lay_145 (by decide) ?_
    refine x_istore_n (lv2 := [(2, .int 0), (1, .int 0), (0, .ref v0)]) hM d_Mo_lay_146 rfl (Nat.le_of_ble_eq_true rfl) rfl ?_
    refine x_sub [2, 1, 0] rfl ?_
    exact F
  · replace F := F.2 q19
    refine x_aload_n hM d_Mo_lay_31 rfl 0 rfl ?_
    refine x_iload_n hM d_Mo_lay_32 rfl 1 rfl ?_
    obtain ⟨c18, F⟩ := F
    refine x_callV hG hM (r' := r_Mo_open) (ci := 11) [.int v1] rfl rfl (Nat.le_of_ble_eq_true rfl) yk_Mo_open ⟨Nat.le_of_ble_eq_true rfl, Nat.le_of_ble_eq_true rfl⟩ w_1092 w_1094 ws_Mo_open rfl rfl (Nat.le_of_ble_eq_true rfl) d_Mo_lay_33 c18 (sem_mono F ?_)
    intro u2 h1 F
    obtain ⟨rfl, F⟩ := F
    refine x_aload_n hM d_Mo_lay_36 rfl 0 rfl ?_
    obtain ⟨c16, F⟩ := F
    obtain ⟨c17, F⟩ := F
    refine x_getr hG hM ck_Mo 15 (Nat.le_of_ble_eq_true rfl) rfl rfl w_912 rfl d_Mo_lay_37 c16 c17 ?_
    refine x_iload_n hM d_Mo_lay_40 rfl 1 rfl ?_
    refine x_aload_n hM d_Mo_lay_41 rfl 0 rfl ?_
    refine x_bipush (v := 12) hM d_Mo_lay_42 (by decide) ?_
    obtain ⟨c15, F⟩ := F
    refine x_callV hG hM (r' := r_Mo_hold) (ci := 11) [.int 12] rfl rfl (Nat.le_of_ble_eq_true rfl) yk_Mo_hold ⟨Nat.le_of_ble_eq_true rfl, Nat.le_of_ble_eq_true rfl⟩ w_1096 w_1098 ws_Mo_hold rfl rfl (Nat.le_of_ble_eq_true rfl) d_Mo_lay_44 c15 (sem_mono F ?_)
    intro u4 h3 F
    obtain ⟨x5, rfl, F⟩ := F
    obtain ⟨c12, F⟩ := F
    obtain ⟨c13, F⟩ := F
    obtain ⟨c14, F⟩ := F
    obtain ⟨h6, eh6⟩ : ∃ z : Hp, z = wI h3 (rf h1 v0 15) (Int32.toNatClampNeg v1) x5 := ⟨_, rfl⟩
    replace F := F h6 eh6
    refine x_zastore hG hM d_Mo_lay_47 c12 c13 c14 ?_
    rw [← eh6]
    clear eh6
    refine x_aload_n hM d_Mo_lay_48 rfl 0 rfl ?_
    obtain ⟨c10, F⟩ := F
    obtain ⟨c11, F⟩ := F
    refine x_getr hG hM ck_Mo 16 (Nat.le_of_ble_eq_true rfl) rfl rfl w_913 rfl d_Mo_lay_49 c10 c11 ?_
    refine x_iload_n hM d_Mo_lay_52 rfl 1 rfl ?_
    refine x_iconst (v := (-1)) hM d_Mo_lay_53 (by decide) ?_
    obtain ⟨c8, F⟩ := F
    obtain ⟨c9, F⟩ := F
    obtain ⟨h7, eh7⟩ : ∃ z : Hp, z = wI h6 (rf h6 v0 16) (Int32.toNatClampNeg v1) (-1) := ⟨_, rfl⟩
    replace F := F h7 eh7
    refine x_iastore hG hM d_Mo_lay_54 c8 c9 ?_
    rw [← eh7]
    clear eh7
    refine x_iconst (v := 0) hM d_Mo_lay_55 (by decide) ?_
    refine x_istore_n (lv2 := [(2, .int 0), (0, .ref v0), (1, .int v1)]) hM d_Mo_lay_56 rfl (Nat.le_of_ble_eq_true rfl) rfl ?_
    refine x_sub [1, 2, 0] rfl ?_
    exact F
set_option maxRecDepth 100000 in
set_option maxHeartbeats 4000000 in
theorem S_Mo_lay_57 {G : Gc} {M : Mc} {Q : State → Prop} {K : Option Value → Hp → Prop} (hG : gok G) (hM : mok G M r_Mo_lay Q K) (v0 : Nat) (v1 : Int32) (v2 : Int32) (h : Hp) (F : kT h v0 = 12 ∧ (((kI h v0 3) ≤ v2 → X G M Q 23 [(0, .ref v0), (1, .int (v1 + 1))] [] h) ∧ (¬ (kI h v0 3) ≤ v2 → (kT h v0 = 12 ∧ sem G r_Mo_hold [.ref v0, .int v2] h (fun u2 h1 => ∃ x3 : Int32, u2 = some (.int x3) ∧ X G M Q 74 [(0, .ref v0), (1, .int v1), (2, .int v2), (3, .int x3), (4, .int 0)] [] h1))))) : X G M Q 57 [(0, .ref v0), (1, .int v1), (2, .int v2)] [] h := by
  refine x_iload_n hM d_Mo_lay_57 rfl 2 rfl ?_
  refine x_aload_n hM d_Mo_lay_58 rfl 0 rfl ?_
  obtain ⟨c6, F⟩ := F
  refine x_geti hG hM ck_Mo 3 (Nat.le_of_ble_eq_true rfl) rfl rfl w_900 rfl d_Mo_lay_59 c6 ?_
  refine x_icmp_ge (tgt := 137) hM d_Mo_lay_62 (by decide) (fun q5 => ?_) (fun q5 => ?_)
  · replace F := F.1 q5
    refine x_iinc (v := (v1 + 1)) (lv2 := [(1, .int (v1 + 1)), (0, .ref v0), (2, .int v2)]) hM d_Mo_lay_137 (j := 1) rfl rfl (Nat.le_of_ble_eq_true rfl) rfl ?_
    refine x_goto (tgt := 23) hM d_Mo_lay_140 (by decide) ?_
    refine x_sub [1, 0] rfl ?_
    exact F
  · replace F := F.2 q5
    refine x_aload_n hM d_Mo_lay_65 rfl 0 rfl ?_
    refine x_iload_n hM d_Mo_lay_66 rfl 2 rfl ?_
    obtain ⟨c4, F⟩ := F
    refine x_callV hG hM (r' := r_Mo_hold) (ci := 11) [.int v2] rfl rfl (Nat.le_of_ble_eq_true rfl) yk_Mo_hold ⟨Nat.le_of_ble_eq_true rfl, Nat.le_of_ble_eq_true rfl⟩ w_1096 w_1098 ws_Mo_hold rfl rfl (Nat.le_of_ble_eq_true rfl) d_Mo_lay_67 c4 (sem_mono F ?_)
    intro u2 h1 F
    obtain ⟨x3, rfl, F⟩ := F
    refine x_istore_n (lv2 := [(3, .int x3), (0, .ref v0), (1, .int v1), (2, .int v2)]) hM d_Mo_lay_70 rfl (Nat.le_of_ble_eq_true rfl) rfl ?_
    refine x_iconst (v := 0) hM d_Mo_lay_71 (by decide) ?_
    refine x_istore (lv2 := [(4, .int 0), (3, .int x3), (0, .ref v0), (1, .int v1), (2, .int v2)]) hM d_Mo_lay_72 (Nat.le_of_ble_eq_true rfl) rfl ?_
    refine x_sub [2, 3, 4, 1, 0] rfl ?_
    exact F
set_option maxRecDepth 100000 in
set_option maxHeartbeats 4000000 in
theorem S_Mo_lay_74 {G : Gc} {M : Mc} {Q : State → Prop} {K : Option Value → Hp → Prop} (hG : gok G) (hM : mok G M r_Mo_lay Q K) (v0 : Nat) (v1 : Int32) (v2 : Int32) (v3 : Int32) (v4 : Int32) (h : Hp) (F : (3 ≤ v4 → X G M Q 57 [(0, .ref v0), (1, .int v1), (2, .int (v2 + 1))] [] h) ∧ (¬ 3 ≤ v4 → (kT h v0 = 12 ∧ kR h v0 14 = some (rf h v0 14) ∧ ((v3 = 0 → (kT h (rf h v0 14) = 50 ∧ vp_in (((36 * v1) + (3 * v2)) + v4) (kN h (rf h v0 14)) ∧ (∀ h1 : Hp, h1 = wI h (rf h v0 14) (Int32.toNatClampNeg (((36 * v1) + (3 * v2)) + v4)) (-1) → X G M Q 74 [(0, .ref v0), (1, .int v1), (2, .int v2), (3, .int v3), (4, .int (v4 + 1))] [] h1))) ∧ (¬ v3 = 0 → (kT h v0 = 12 ∧ kR h v0 4 = some (rf h v0 4) ∧ (kT h (rf h v0 4) = 50 ∧ vp_in v2 (kN h (rf h v0 4)) ∧ (((kI h (rf h v0 4) (Int32.toNatClampNeg v2)) ≤ v4 → (kT h (rf h v0 14) = 50 ∧ vp_in (((36 * v1) + (3 * v2)) + v4) (kN h (rf h v0 14)) ∧ (∀ h4 : Hp, h4 = wI h (rf h v0 14) (Int32.toNatClampNeg (((36 * v1) + (3 * v2)) + v4)) (-1) → X G M Q 74 [(0, .ref v0), (1, .int v1), (2, .int v2), (3, .int v3), (4, .int (v4 + 1))] [] h4))) ∧ (¬ (kI h (rf h v0 4) (Int32.toNatClampNeg v2)) ≤ v4 → (kT h v0 = 12 ∧ sem G r_Mo_goes [.ref v0, .int ((3 * v2) + v4)] h (fun u8 h7 => ∃ x9 : Int32, u8 = some (.int x9) ∧ (kT h7 (rf h v0 14) = 50 ∧ vp_in (((36 * v1) + (3 * v2)) + v4) (kN h7 (rf h v0 14)) ∧ (∀ h10 : Hp, h10 = wI h7 (rf h v0 14) (Int32.toNatClampNeg (((36 * v1) + (3 * v2)) + v4)) x9 → X G M Q 74 [(0, .ref v0), (1, .int v1), (2, .int v2), (3, .int v3), (4, .int (v4 + 1))] [] h10))))))))))))) : X G M Q 74 [(0, .ref v0), (1, .int v1), (2, .int v2), (3, .int v3), (4, .int v4)] [] h := by
  refine x_iload hM d_Mo_lay_74 4 rfl ?_
  refine x_iconst (v := 3) hM d_Mo_lay_76 (by decide) ?_
  refine x_icmp_ge (tgt := 131) hM d_Mo_lay_77 (by decide) (fun q22 => ?_) (fun q22 => ?_)
  · replace F := F.1 q22
    refine x_iinc (v := (v2 + 1)) (lv2 := [(2, .int (v2 + 1)), (0, .ref v0), (1, .int v1), (3, .int v3), (4, .int v4)]) hM d_Mo_lay_131 (j := 2) rfl rfl (Nat.le_of_ble_eq_true rfl) rfl ?_
    refine x_goto (tgt := 57) hM d_Mo_lay_134 (by decide) ?_
    refine x_sub [1, 2, 0] rfl ?_
    exact F
  · replace F := F.2 q22
    refine x_aload_n hM d_Mo_lay_80 rfl 0 rfl ?_
    obtain ⟨c20, F⟩ := F
    obtain ⟨c21, F⟩ := F
    refine x_getr hG hM ck_Mo 14 (Nat.le_of_ble_eq_true rfl) rfl rfl w_911 rfl d_Mo_lay_81 c20 c21 ?_
    refine x_bipush (v := 36) hM d_Mo_lay_84 (by decide) ?_
    refine x_iload_n hM d_Mo_lay_86 rfl 1 rfl ?_
    refine x_imul hM d_Mo_lay_87 ?_
    refine x_iconst (v := 3) hM d_Mo_lay_88 (by decide) ?_
    refine x_iload_n hM d_Mo_lay_89 rfl 2 rfl ?_
    refine x_imul hM d_Mo_lay_90 ?_
    refine x_iadd hM d_Mo_lay_91 ?_
    refine x_iload hM d_Mo_lay_92 4 rfl ?_
    refine x_iadd hM d_Mo_lay_94 ?_
    refine x_iload_n hM d_Mo_lay_95 rfl 3 rfl ?_
    refine x_if_eq (tgt := 123) hM d_Mo_lay_96 (by decide) (fun q19 => ?_) (fun q19 => ?_)
    · replace F := F.1 q19
      refine x_iconst (v := (-1)) hM d_Mo_lay_123 (by decide) ?_
      obtain ⟨c2, F⟩ := F
      obtain ⟨c3, F⟩ := F
      obtain ⟨h1, eh1⟩ : ∃ z : Hp, z = wI h (rf h v0 14) (Int32.toNatClampNeg (((36 * v1) + (3 * v2)) + v4)) (-1) := ⟨_, rfl⟩
      replace F := F h1 eh1
      refine x_iastore hG hM d_Mo_lay_124 c2 c3 ?_
      rw [← eh1]
      clear eh1
      refine x_iinc (v := (v4 + 1)) (lv2 := [(4, .int (v4 + 1)), (0, .ref v0), (1, .int v1), (2, .int v2), (3, .int v3)]) hM d_Mo_lay_125 (j := 4) rfl rfl (Nat.le_of_ble_eq_true rfl) rfl ?_
      refine x_goto (tgt := 74) hM d_Mo_lay_128 (by decide) ?_
      refine x_sub [1, 2, 3, 4, 0] rfl ?_
      exact F
    · replace F := F.2 q19
      refine x_iload hM d_Mo_lay_99 4 rfl ?_
      refine x_aload_n hM d_Mo_lay_101 rfl 0 rfl ?_
      obtain ⟨c17, F⟩ := F
      obtain ⟨c18, F⟩ := F
      refine x_getr hG hM ck_Mo 4 (Nat.le_of_ble_eq_true rfl) rfl rfl w_901 rfl d_Mo_lay_102 c17 c18 ?_
      refine x_iload_n hM d_Mo_lay_105 rfl 2 rfl ?_
      obtain ⟨c15, F⟩ := F
      obtain ⟨c16, F⟩ := F
      refine x_iaload hG hM d_Mo_lay_106 c15 c16 ?_
      refine x_icmp_ge (tgt := 123) hM d_Mo_lay_107 (by decide) (fun q14 => ?_) (fun q14 => ?_)
      · replace F := F.1 q14
        refine x_iconst (v := (-1)) hM d_Mo_lay_123 (by decide) ?_
        obtain ⟨c5, F⟩ := F
        obtain ⟨c6, F⟩ := F
        obtain ⟨h4, eh4⟩ : ∃ z : Hp, z = wI h (rf h v0 14) (Int32.toNatClampNeg (((36 * v1) + (3 * v2)) + v4)) (-1) := ⟨_, rfl⟩
        replace F := F h4 eh4
        refine x_iastore hG hM d_Mo_lay_124 c5 c6 ?_
        rw [← eh4]
        clear eh4
        refine x_iinc (v := (v4 + 1)) (lv2 := [(4, .int (v4 + 1)), (0, .ref v0), (1, .int v1), (2, .int v2), (3, .int v3)]) hM d_Mo_lay_125 (j := 4) rfl rfl (Nat.le_of_ble_eq_true rfl) rfl ?_
        refine x_goto (tgt := 74) hM d_Mo_lay_128 (by decide) ?_
        refine x_sub [1, 2, 3, 4, 0] rfl ?_
        exact F
      · replace F := F.2 q14
        refine x_aload_n hM d_Mo_lay_110 rfl 0 rfl ?_
        refine x_iconst (v := 3) hM d_Mo_lay_111 (by decide) ?_
        refine x_iload_n hM d_Mo_lay_112 rfl 2 rfl ?_
        refine x_imul hM d_Mo_lay_113 ?_
        refine x_iload hM d_Mo_lay_114 4 rfl ?_
        refine x_iadd hM d_Mo_lay_116 ?_
        obtain ⟨c13, F⟩ := F
        refine x_callV hG hM (r' := r_Mo_goes) (ci := 11) [.int ((3 * v2) + v4)] rfl rfl (Nat.le_of_ble_eq_true rfl) yk_Mo_goes ⟨Nat.le_of_ble_eq_true rfl, Nat.le_of_ble_eq_true rfl⟩ w_1100 w_1102 ws_Mo_goes rfl rfl (Nat.le_of_ble_eq_true rfl) d_Mo_lay_117 c13 (sem_mono F ?_)
        intro u8 h7 F
        obtain ⟨x9, rfl, F⟩ := F
        refine x_goto (tgt := 124) hM d_Mo_lay_120 (by decide) ?_
        obtain ⟨c11, F⟩ := F
        obtain ⟨c12, F⟩ := F
        obtain ⟨h10, eh10⟩ : ∃ z : Hp, z = wI h7 (rf h v0 14) (Int32.toNatClampNeg (((36 * v1) + (3 * v2)) + v4)) x9 := ⟨_, rfl⟩
        replace F := F h10 eh10
        refine x_iastore hG hM d_Mo_lay_124 c11 c12 ?_
        rw [← eh10]
        clear eh10
        refine x_iinc (v := (v4 + 1)) (lv2 := [(4, .int (v4 + 1)), (0, .ref v0), (1, .int v1), (2, .int v2), (3, .int v3)]) hM d_Mo_lay_125 (j := 4) rfl rfl (Nat.le_of_ble_eq_true rfl) rfl ?_
        refine x_goto (tgt := 74) hM d_Mo_lay_128 (by decide) ?_
        refine x_sub [1, 2, 3, 4, 0] rfl ?_
        exact F
set_option maxRecDepth 100000 in
set_option maxHeartbeats 4000000 in
theorem S_Mo_lay_147 {G : Gc} {M : Mc} {Q : State → Prop} {K : Option Value → Hp → Prop} (hG : gok G) (hM : mok G M r_Mo_lay Q K) (v0 : Nat) (v1 : Int32) (v2 : Int32) (h : Hp) (F : kT h v0 = 12 ∧ (((kI h v0 13) ≤ v2 → (kT h v0 = 12 ∧ sem G r_Mo_forward [.ref v0] h (fun u2 h1 => u2 = none ∧ (kT h1 v0 = 12 ∧ sem G r_Mo_backward [.ref v0] h1 (fun u4 h3 => u4 = none ∧ (kT h3 v0 = 12 ∧ sem G r_Mo_surely [.ref v0] h3 (fun u6 h5 => u6 = none ∧ (kT h5 v0 = 12 ∧ sem G r_Mo_fairly [.ref v0] h5 (fun u8 h7 => u8 = none ∧ K none h7))))))))) ∧ (¬ (kI h v0 13) ≤ v2 → X G M Q 157 [(0, .ref v0), (1, .int v1), (2, .int v2), (3, .int 0)] [] h))) : X G M Q 147 [(0, .ref v0), (1, .int v1), (2, .int v2)] [] h := by
  refine x_iload_n hM d_Mo_lay_147 rfl 2 rfl ?_
  refine x_aload_n hM d_Mo_lay_148 rfl 0 rfl ?_
  obtain ⟨c14, F⟩ := F
  refine x_geti hG hM ck_Mo 13 (Nat.le_of_ble_eq_true rfl) rfl rfl w_910 rfl d_Mo_lay_149 c14 ?_
  refine x_icmp_ge (tgt := 234) hM d_Mo_lay_152 (by decide) (fun q13 => ?_) (fun q13 => ?_)
  · replace F := F.1 q13
    refine x_aload_n hM d_Mo_lay_234 rfl 0 rfl ?_
    obtain ⟨c12, F⟩ := F
    refine x_callV hG hM (r' := r_Mo_forward) (ci := 11) [] rfl rfl (Nat.le_of_ble_eq_true rfl) yk_Mo_forward ⟨Nat.le_of_ble_eq_true rfl, Nat.le_of_ble_eq_true rfl⟩ w_1116 w_1118 ws_Mo_forward rfl rfl (Nat.le_of_ble_eq_true rfl) d_Mo_lay_235 c12 (sem_mono F ?_)
    intro u2 h1 F
    obtain ⟨rfl, F⟩ := F
    refine x_aload_n hM d_Mo_lay_238 rfl 0 rfl ?_
    obtain ⟨c11, F⟩ := F
    refine x_callV hG hM (r' := r_Mo_backward) (ci := 11) [] rfl rfl (Nat.le_of_ble_eq_true rfl) yk_Mo_backward ⟨Nat.le_of_ble_eq_true rfl, Nat.le_of_ble_eq_true rfl⟩ w_1120 w_1122 ws_Mo_backward rfl rfl (Nat.le_of_ble_eq_true rfl) d_Mo_lay_239 c11 (sem_mono F ?_)
    intro u4 h3 F
    obtain ⟨rfl, F⟩ := F
    refine x_aload_n hM d_Mo_lay_242 rfl 0 rfl ?_
    obtain ⟨c10, F⟩ := F
    refine x_callV hG hM (r' := r_Mo_surely) (ci := 11) [] rfl rfl (Nat.le_of_ble_eq_true rfl) yk_Mo_surely ⟨Nat.le_of_ble_eq_true rfl, Nat.le_of_ble_eq_true rfl⟩ w_1128 w_1130 ws_Mo_surely rfl rfl (Nat.le_of_ble_eq_true rfl) d_Mo_lay_243 c10 (sem_mono F ?_)
    intro u6 h5 F
    obtain ⟨rfl, F⟩ := F
    refine x_aload_n hM d_Mo_lay_246 rfl 0 rfl ?_
    obtain ⟨c9, F⟩ := F
    refine x_callV hG hM (r' := r_Mo_fairly) (ci := 11) [] rfl rfl (Nat.le_of_ble_eq_true rfl) yk_Mo_fairly ⟨Nat.le_of_ble_eq_true rfl, Nat.le_of_ble_eq_true rfl⟩ w_1132 w_1134 ws_Mo_fairly rfl rfl (Nat.le_of_ble_eq_true rfl) d_Mo_lay_247 c9 (sem_mono F ?_)
    intro u8 h7 F
    obtain ⟨rfl, F⟩ := F
    exact x_return hM d_Mo_lay_250 rfl F
  · replace F := F.2 q13
    refine x_iconst (v := 0) hM d_Mo_lay_155 (by decide) ?_
    refine x_istore_n (lv2 := [(3, .int 0), (0, .ref v0), (1, .int v1), (2, .int v2)]) hM d_Mo_lay_156 rfl (Nat.le_of_ble_eq_true rfl) rfl ?_
    refine x_sub [1, 2, 3, 0] rfl ?_
    exact F
set_option maxRecDepth 100000 in
set_option maxHeartbeats 4000000 in
theorem S_Mo_lay_157 {G : Gc} {M : Mc} {Q : State → Prop} {K : Option Value → Hp → Prop} (hG : gok G) (hM : mok G M r_Mo_lay Q K) (v0 : Nat) (v1 : Int32) (v2 : Int32) (v3 : Int32) (h : Hp) (F : kT h v0 = 12 ∧ (((3 * (kI h v0 3)) ≤ v3 → X G M Q 147 [(0, .ref v0), (1, .int v1), (2, .int (v2 + 1))] [] h) ∧ (¬ (3 * (kI h v0 3)) ≤ v3 → (kT h v0 = 12 ∧ kR h v0 14 = some (rf h v0 14) ∧ (kT h (rf h v0 14) = 50 ∧ vp_in ((36 * v2) + v3) (kN h (rf h v0 14)) ∧ (((kI h (rf h v0 14) (Int32.toNatClampNeg ((36 * v2) + v3))) = (-1) → X G M Q 157 [(0, .ref v0), (1, .int v1), (2, .int v2), (3, .int (v3 + 1))] [] h) ∧ (¬ (kI h (rf h v0 14) (Int32.toNatClampNeg ((36 * v2) + v3))) = (-1) → (kT h v0 = 12 ∧ kR h v0 17 = some (rf h v0 17) ∧ (kT h (rf h v0 17) = 50 ∧ vp_in v1 (kN h (rf h v0 17)) ∧ (∀ h1 : Hp, h1 = wI h (rf h v0 17) (Int32.toNatClampNeg v1) ((36 * v2) + v3) → (kT h1 v0 = 12 ∧ kR h1 v0 18 = some (rf h1 v0 18) ∧ (kT h1 v0 = 12 ∧ kR h1 v0 16 = some (rf h1 v0 16) ∧ (kT h1 (rf h1 v0 16) = 50 ∧ vp_in (kI h (rf h v0 14) (Int32.toNatClampNeg ((36 * v2) + v3))) (kN h1 (rf h1 v0 16)) ∧ (kT h1 (rf h1 v0 18) = 50 ∧ vp_in v1 (kN h1 (rf h1 v0 18)) ∧ (∀ h2 : Hp, h2 = wI h1 (rf h1 v0 18) (Int32.toNatClampNeg v1) (kI h1 (rf h1 v0 16) (Int32.toNatClampNeg (kI h (rf h v0 14) (Int32.toNatClampNeg ((36 * v2) + v3))))) → (kT h2 v0 = 12 ∧ kR h2 v0 16 = some (rf h2 v0 16) ∧ (kT h2 (rf h2 v0 16) = 50 ∧ vp_in (kI h (rf h v0 14) (Int32.toNatClampNeg ((36 * v2) + v3))) (kN h2 (rf h2 v0 16)) ∧ (∀ h3 : Hp, h3 = wI h2 (rf h2 v0 16) (Int32.toNatClampNeg (kI h (rf h v0 14) (Int32.toNatClampNeg ((36 * v2) + v3)))) v1 → X G M Q 157 [(0, .ref v0), (1, .int (v1 + 1)), (2, .int v2), (3, .int (v3 + 1))] [] h3)))))))))))))))))) : X G M Q 157 [(0, .ref v0), (1, .int v1), (2, .int v2), (3, .int v3)] [] h := by
  refine x_iload_n hM d_Mo_lay_157 rfl 3 rfl ?_
  refine x_iconst (v := 3) hM d_Mo_lay_158 (by decide) ?_
  refine x_aload_n hM d_Mo_lay_159 rfl 0 rfl ?_
  obtain ⟨c26, F⟩ := F
  refine x_geti hG hM ck_Mo 3 (Nat.le_of_ble_eq_true rfl) rfl rfl w_900 rfl d_Mo_lay_160 c26 ?_
  refine x_imul hM d_Mo_lay_163 ?_
  refine x_icmp_ge (tgt := 228) hM d_Mo_lay_164 (by decide) (fun q25 => ?_) (fun q25 => ?_)
  · replace F := F.1 q25
    refine x_iinc (v := (v2 + 1)) (lv2 := [(2, .int (v2 + 1)), (0, .ref v0), (1, .int v1), (3, .int v3)]) hM d_Mo_lay_228 (j := 2) rfl rfl (Nat.le_of_ble_eq_true rfl) rfl ?_
    refine x_goto (tgt := 147) hM d_Mo_lay_231 (by decide) ?_
    refine x_sub [1, 2, 0] rfl ?_
    exact F
  · replace F := F.2 q25
    refine x_aload_n hM d_Mo_lay_167 rfl 0 rfl ?_
    obtain ⟨c23, F⟩ := F
    obtain ⟨c24, F⟩ := F
    refine x_getr hG hM ck_Mo 14 (Nat.le_of_ble_eq_true rfl) rfl rfl w_911 rfl d_Mo_lay_168 c23 c24 ?_
    refine x_bipush (v := 36) hM d_Mo_lay_171 (by decide) ?_
    refine x_iload_n hM d_Mo_lay_173 rfl 2 rfl ?_
    refine x_imul hM d_Mo_lay_174 ?_
    refine x_iload_n hM d_Mo_lay_175 rfl 3 rfl ?_
    refine x_iadd hM d_Mo_lay_176 ?_
    obtain ⟨c21, F⟩ := F
    obtain ⟨c22, F⟩ := F
    refine x_iaload hG hM d_Mo_lay_177 c21 c22 ?_
    refine x_istore (lv2 := [(4, .int (kI h (rf h v0 14) (Int32.toNatClampNeg ((36 * v2) + v3)))), (0, .ref v0), (1, .int v1), (2, .int v2), (3, .int v3)]) hM d_Mo_lay_178 (Nat.le_of_ble_eq_true rfl) rfl ?_
    refine x_iload hM d_Mo_lay_180 0 rfl ?_
    refine x_iconst (v := (-1)) hM d_Mo_lay_182 (by decide) ?_
    refine x_icmp_eq (tgt := 222) hM d_Mo_lay_183 (by decide) (fun q20 => ?_) (fun q20 => ?_)
    · replace F := F.1 q20
      refine x_iinc (v := (v3 + 1)) (lv2 := [(3, .int (v3 + 1)), (4, .int (kI h (rf h v0 14) (Int32.toNatClampNeg ((36 * v2) + v3)))), (0, .ref v0), (1, .int v1), (2, .int v2)]) hM d_Mo_lay_222 (j := 4) rfl rfl (Nat.le_of_ble_eq_true rfl) rfl ?_
      refine x_goto (tgt := 157) hM d_Mo_lay_225 (by decide) ?_
      refine x_sub [2, 3, 4, 0] rfl ?_
      exact F
    · replace F := F.2 q20
      refine x_aload_n hM d_Mo_lay_186 rfl 1 rfl ?_
      obtain ⟨c18, F⟩ := F
      obtain ⟨c19, F⟩ := F
      refine x_getr hG hM ck_Mo 17 (Nat.le_of_ble_eq_true rfl) rfl rfl w_914 rfl d_Mo_lay_187 c18 c19 ?_
      refine x_iload_n hM d_Mo_lay_190 rfl 2 rfl ?_
      refine x_bipush (v := 36) hM d_Mo_lay_191 (by decide) ?_
      refine x_iload_n hM d_Mo_lay_193 rfl 3 rfl ?_
      refine x_imul hM d_Mo_lay_194 ?_
      refine x_iload_n hM d_Mo_lay_195 rfl 4 rfl ?_
      refine x_iadd hM d_Mo_lay_196 ?_
      obtain ⟨c16, F⟩ := F
      obtain ⟨c17, F⟩ := F
      obtain ⟨h1, eh1⟩ : ∃ z : Hp, z = wI h (rf h v0 17) (Int32.toNatClampNeg v1) ((36 * v2) + v3) := ⟨_, rfl⟩
      replace F := F h1 eh1
      refine x_iastore hG hM d_Mo_lay_197 c16 c17 ?_
      rw [← eh1]
      clear eh1
      refine x_aload_n hM d_Mo_lay_198 rfl 1 rfl ?_
      obtain ⟨c14, F⟩ := F
      obtain ⟨c15, F⟩ := F
      refine x_getr hG hM ck_Mo 18 (Nat.le_of_ble_eq_true rfl) rfl rfl w_915 rfl d_Mo_lay_199 c14 c15 ?_
      refine x_iload_n hM d_Mo_lay_202 rfl 2 rfl ?_
      refine x_aload_n hM d_Mo_lay_203 rfl 1 rfl ?_
      obtain ⟨c12, F⟩ := F
      obtain ⟨c13, F⟩ := F
      refine x_getr hG hM ck_Mo 16 (Nat.le_of_ble_eq_true rfl) rfl rfl w_913 rfl d_Mo_lay_204 c12 c13 ?_
      refine x_iload hM d_Mo_lay_207 0 rfl ?_
      obtain ⟨c10, F⟩ := F
      obtain ⟨c11, F⟩ := F
      refine x_iaload hG hM d_Mo_lay_209 c10 c11 ?_
      obtain ⟨c8, F⟩ := F
      obtain ⟨c9, F⟩ := F
      obtain ⟨h2, eh2⟩ : ∃ z : Hp, z = wI h1 (rf h1 v0 18) (Int32.toNatClampNeg v1) (kI h1 (rf h1 v0 16) (Int32.toNatClampNeg (kI h (rf h v0 14) (Int32.toNatClampNeg ((36 * v2) + v3))))) := ⟨_, rfl⟩
      replace F := F h2 eh2
      refine x_iastore hG hM d_Mo_lay_210 c8 c9 ?_
      rw [← eh2]
      clear eh2
      refine x_aload_n hM d_Mo_lay_211 rfl 1 rfl ?_
      obtain ⟨c6, F⟩ := F
      obtain ⟨c7, F⟩ := F
      refine x_getr hG hM ck_Mo 16 (Nat.le_of_ble_eq_true rfl) rfl rfl w_913 rfl d_Mo_lay_212 c6 c7 ?_
      refine x_iload hM d_Mo_lay_215 0 rfl ?_
      refine x_iload_n hM d_Mo_lay_217 rfl 2 rfl ?_
      obtain ⟨c4, F⟩ := F
      obtain ⟨c5, F⟩ := F
      obtain ⟨h3, eh3⟩ : ∃ z : Hp, z = wI h2 (rf h2 v0 16) (Int32.toNatClampNeg (kI h (rf h v0 14) (Int32.toNatClampNeg ((36 * v2) + v3)))) v1 := ⟨_, rfl⟩
      replace F := F h3 eh3
      refine x_iastore hG hM d_Mo_lay_218 c4 c5 ?_
      rw [← eh3]
      clear eh3
      refine x_iinc (v := (v1 + 1)) (lv2 := [(1, .int (v1 + 1)), (4, .int (kI h (rf h v0 14) (Int32.toNatClampNeg ((36 * v2) + v3)))), (0, .ref v0), (2, .int v2), (3, .int v3)]) hM d_Mo_lay_219 (j := 2) rfl rfl (Nat.le_of_ble_eq_true rfl) rfl ?_
      refine x_iinc (v := (v3 + 1)) (lv2 := [(3, .int (v3 + 1)), (1, .int (v1 + 1)), (4, .int (kI h (rf h v0 14) (Int32.toNatClampNeg ((36 * v2) + v3)))), (0, .ref v0), (2, .int v2)]) hM d_Mo_lay_222 (j := 4) rfl rfl (Nat.le_of_ble_eq_true rfl) rfl ?_
      refine x_goto (tgt := 157) hM d_Mo_lay_225 (by decide) ?_
      refine x_sub [3, 1, 4, 0] rfl ?_
      exact F
theorem d_Mo_forward_0 : decode b_Mo_forward 0 = .ok (.iconst 0, 1) := by decide +kernel
theorem d_Mo_forward_1 : decode b_Mo_forward 1 = .ok (.istore_n 1, 1) := by decide +kernel
theorem d_Mo_forward_2 : decode b_Mo_forward 2 = .ok (.iload_n 1, 1) := by decide +kernel
theorem d_Mo_forward_3 : decode b_Mo_forward 3 = .ok (.aload_n 0, 1) := by decide +kernel
theorem d_Mo_forward_4 : decode b_Mo_forward 4 = .ok (.getfield 157, 3) := by decide +kernel
theorem d_Mo_forward_7 : decode b_Mo_forward 7 = .ok (.if_icmp .ge 16, 3) := by decide +kernel
theorem d_Mo_forward_10 : decode b_Mo_forward 10 = .ok (.aload_n 0, 1) := by decide +kernel
theorem d_Mo_forward_11 : decode b_Mo_forward 11 = .ok (.getfield 51, 3) := by decide +kernel
theorem d_Mo_forward_14 : decode b_Mo_forward 14 = .ok (.iload_n 1, 1) := by decide +kernel
theorem d_Mo_forward_15 : decode b_Mo_forward 15 = .ok (.iconst (-1), 1) := by decide +kernel
theorem d_Mo_forward_16 : decode b_Mo_forward 16 = .ok (.iastore, 1) := by decide +kernel
theorem d_Mo_forward_17 : decode b_Mo_forward 17 = .ok (.iinc 1 1, 3) := by decide +kernel
theorem d_Mo_forward_20 : decode b_Mo_forward 20 = .ok (.goto (-18), 3) := by decide +kernel
theorem d_Mo_forward_23 : decode b_Mo_forward 23 = .ok (.aload_n 0, 1) := by decide +kernel
theorem d_Mo_forward_24 : decode b_Mo_forward 24 = .ok (.getfield 51, 3) := by decide +kernel
theorem d_Mo_forward_27 : decode b_Mo_forward 27 = .ok (.aload_n 0, 1) := by decide +kernel
theorem d_Mo_forward_28 : decode b_Mo_forward 28 = .ok (.getfield 109, 3) := by decide +kernel
theorem d_Mo_forward_31 : decode b_Mo_forward 31 = .ok (.iconst 0, 1) := by decide +kernel
theorem d_Mo_forward_32 : decode b_Mo_forward 32 = .ok (.iastore, 1) := by decide +kernel
theorem d_Mo_forward_33 : decode b_Mo_forward 33 = .ok (.aload_n 0, 1) := by decide +kernel
theorem d_Mo_forward_34 : decode b_Mo_forward 34 = .ok (.getfield 63, 3) := by decide +kernel
theorem d_Mo_forward_37 : decode b_Mo_forward 37 = .ok (.iconst 0, 1) := by decide +kernel
theorem d_Mo_forward_38 : decode b_Mo_forward 38 = .ok (.aload_n 0, 1) := by decide +kernel
theorem d_Mo_forward_39 : decode b_Mo_forward 39 = .ok (.getfield 109, 3) := by decide +kernel
theorem d_Mo_forward_42 : decode b_Mo_forward 42 = .ok (.iastore, 1) := by decide +kernel
theorem d_Mo_forward_43 : decode b_Mo_forward 43 = .ok (.iconst 1, 1) := by decide +kernel
theorem d_Mo_forward_44 : decode b_Mo_forward 44 = .ok (.istore_n 1, 1) := by decide +kernel
theorem d_Mo_forward_45 : decode b_Mo_forward 45 = .ok (.iconst 0, 1) := by decide +kernel
theorem d_Mo_forward_46 : decode b_Mo_forward 46 = .ok (.istore_n 2, 1) := by decide +kernel
theorem d_Mo_forward_47 : decode b_Mo_forward 47 = .ok (.iload_n 2, 1) := by decide +kernel
theorem d_Mo_forward_48 : decode b_Mo_forward 48 = .ok (.iload_n 1, 1) := by decide +kernel
theorem d_Mo_forward_49 : decode b_Mo_forward 49 = .ok (.if_icmp .ge 93, 3) := by decide +kernel
theorem d_Mo_forward_52 : decode b_Mo_forward 52 = .ok (.aload_n 0, 1) := by decide +kernel
theorem d_Mo_forward_53 : decode b_Mo_forward 53 = .ok (.getfield 63, 3) := by decide +kernel
theorem d_Mo_forward_56 : decode b_Mo_forward 56 = .ok (.iload_n 2, 1) := by decide +kernel
theorem d_Mo_forward_57 : decode b_Mo_forward 57 = .ok (.iaload, 1) := by decide +kernel
theorem d_Mo_forward_58 : decode b_Mo_forward 58 = .ok (.istore_n 3, 1) := by decide +kernel
theorem d_Mo_forward_59 : decode b_Mo_forward 59 = .ok (.iconst 0, 1) := by decide +kernel
theorem d_Mo_forward_60 : decode b_Mo_forward 60 = .ok (.istore 4, 2) := by decide +kernel
theorem d_Mo_forward_62 : decode b_Mo_forward 62 = .ok (.iload 4, 2) := by decide +kernel
theorem d_Mo_forward_64 : decode b_Mo_forward 64 = .ok (.iconst 3, 1) := by decide +kernel
theorem d_Mo_forward_65 : decode b_Mo_forward 65 = .ok (.aload_n 0, 1) := by decide +kernel
theorem d_Mo_forward_66 : decode b_Mo_forward 66 = .ok (.getfield 112, 3) := by decide +kernel
theorem d_Mo_forward_69 : decode b_Mo_forward 69 = .ok (.imul, 1) := by decide +kernel
theorem d_Mo_forward_70 : decode b_Mo_forward 70 = .ok (.if_icmp .ge 66, 3) := by decide +kernel
theorem d_Mo_forward_73 : decode b_Mo_forward 73 = .ok (.aload_n 0, 1) := by decide +kernel
theorem d_Mo_forward_74 : decode b_Mo_forward 74 = .ok (.getfield 35, 3) := by decide +kernel
theorem d_Mo_forward_77 : decode b_Mo_forward 77 = .ok (.bipush 36, 2) := by decide +kernel
theorem d_Mo_forward_79 : decode b_Mo_forward 79 = .ok (.iload_n 3, 1) := by decide +kernel
theorem d_Mo_forward_80 : decode b_Mo_forward 80 = .ok (.imul, 1) := by decide +kernel
theorem d_Mo_forward_81 : decode b_Mo_forward 81 = .ok (.iload 4, 2) := by decide +kernel
theorem d_Mo_forward_83 : decode b_Mo_forward 83 = .ok (.iadd, 1) := by decide +kernel
theorem d_Mo_forward_84 : decode b_Mo_forward 84 = .ok (.iaload, 1) := by decide +kernel
theorem d_Mo_forward_85 : decode b_Mo_forward 85 = .ok (.istore 5, 2) := by decide +kernel
theorem d_Mo_forward_87 : decode b_Mo_forward 87 = .ok (.iload 5, 2) := by decide +kernel
theorem d_Mo_forward_89 : decode b_Mo_forward 89 = .ok (.iconst (-1), 1) := by decide +kernel
theorem d_Mo_forward_90 : decode b_Mo_forward 90 = .ok (.if_icmp .eq 40, 3) := by decide +kernel
theorem d_Mo_forward_93 : decode b_Mo_forward 93 = .ok (.aload_n 0, 1) := by decide +kernel
theorem d_Mo_forward_94 : decode b_Mo_forward 94 = .ok (.getfield 51, 3) := by decide +kernel
theorem d_Mo_forward_97 : decode b_Mo_forward 97 = .ok (.iload 5, 2) := by decide +kernel
theorem d_Mo_forward_99 : decode b_Mo_forward 99 = .ok (.iaload, 1) := by decide +kernel
theorem d_Mo_forward_100 : decode b_Mo_forward 100 = .ok (.iconst (-1), 1) := by decide +kernel
theorem d_Mo_forward_101 : decode b_Mo_forward 101 = .ok (.if_icmp .ne 29, 3) := by decide +kernel
theorem d_Mo_forward_104 : decode b_Mo_forward 104 = .ok (.aload_n 0, 1) := by decide +kernel
theorem d_Mo_forward_105 : decode b_Mo_forward 105 = .ok (.getfield 51, 3) := by decide +kernel
theorem d_Mo_forward_108 : decode b_Mo_forward 108 = .ok (.iload 5, 2) := by decide +kernel
theorem d_Mo_forward_110 : decode b_Mo_forward 110 = .ok (.aload_n 0, 1) := by decide +kernel
theorem d_Mo_forward_111 : decode b_Mo_forward 111 = .ok (.getfield 51, 3) := by decide +kernel
theorem d_Mo_forward_114 : decode b_Mo_forward 114 = .ok (.iload_n 3, 1) := by decide +kernel
theorem d_Mo_forward_115 : decode b_Mo_forward 115 = .ok (.iaload, 1) := by decide +kernel
theorem d_Mo_forward_116 : decode b_Mo_forward 116 = .ok (.iconst 1, 1) := by decide +kernel
theorem d_Mo_forward_117 : decode b_Mo_forward 117 = .ok (.iadd, 1) := by decide +kernel
theorem d_Mo_forward_118 : decode b_Mo_forward 118 = .ok (.iastore, 1) := by decide +kernel
theorem d_Mo_forward_119 : decode b_Mo_forward 119 = .ok (.aload_n 0, 1) := by decide +kernel
theorem d_Mo_forward_120 : decode b_Mo_forward 120 = .ok (.getfield 63, 3) := by decide +kernel
theorem d_Mo_forward_123 : decode b_Mo_forward 123 = .ok (.iload_n 1, 1) := by decide +kernel
theorem d_Mo_forward_124 : decode b_Mo_forward 124 = .ok (.iload 5, 2) := by decide +kernel
theorem d_Mo_forward_126 : decode b_Mo_forward 126 = .ok (.iastore, 1) := by decide +kernel
theorem d_Mo_forward_127 : decode b_Mo_forward 127 = .ok (.iinc 1 1, 3) := by decide +kernel
theorem d_Mo_forward_130 : decode b_Mo_forward 130 = .ok (.iinc 4 1, 3) := by decide +kernel
theorem d_Mo_forward_133 : decode b_Mo_forward 133 = .ok (.goto (-71), 3) := by decide +kernel
theorem d_Mo_forward_136 : decode b_Mo_forward 136 = .ok (.iinc 2 1, 3) := by decide +kernel
theorem d_Mo_forward_139 : decode b_Mo_forward 139 = .ok (.goto (-92), 3) := by decide +kernel
theorem d_Mo_forward_142 : decode b_Mo_forward 142 = .ok (.return_, 1) := by decide +kernel
set_option maxRecDepth 100000 in
set_option maxHeartbeats 4000000 in
theorem S_Mo_forward_0 {G : Gc} {M : Mc} {Q : State → Prop} {K : Option Value → Hp → Prop} (hG : gok G) (hM : mok G M r_Mo_forward Q K) (v0 : Nat) (h : Hp) (F : X G M Q 2 [(0, .ref v0), (1, .int 0)] [] h) : X G M Q 0 [(0, .ref v0)] [] h := by
  refine x_iconst (v := 0) hM d_Mo_forward_0 (by decide) ?_
  refine x_istore_n (lv2 := [(1, .int 0), (0, .ref v0)]) hM d_Mo_forward_1 rfl (Nat.le_of_ble_eq_true rfl) rfl ?_
  refine x_sub [1, 0] rfl ?_
  exact F
set_option maxRecDepth 100000 in
set_option maxHeartbeats 4000000 in
theorem S_Mo_forward_2 {G : Gc} {M : Mc} {Q : State → Prop} {K : Option Value → Hp → Prop} (hG : gok G) (hM : mok G M r_Mo_forward Q K) (v0 : Nat) (v1 : Int32) (h : Hp) (F : kT h v0 = 12 ∧ (((kI h v0 13) ≤ v1 → (kT h v0 = 12 ∧ kR h v0 19 = some (rf h v0 19) ∧ (kT h v0 = 12 ∧ (kT h (rf h v0 19) = 50 ∧ vp_in (kI h v0 2) (kN h (rf h v0 19)) ∧ (∀ h1 : Hp, h1 = wI h (rf h v0 19) (Int32.toNatClampNeg (kI h v0 2)) 0 → (kT h1 v0 = 12 ∧ kR h1 v0 23 = some (rf h1 v0 23) ∧ (kT h1 v0 = 12 ∧ (kT h1 (rf h1 v0 23) = 50 ∧ vp_in 0 (kN h1 (rf h1 v0 23)) ∧ (∀ h2 : Hp, h2 = wI h1 (rf h1 v0 23) (Int32.toNatClampNeg 0) (kI h1 v0 2) → X G M Q 47 [(0, .ref v0), (1, .int 1), (2, .int 0)] [] h2))))))))) ∧ (¬ (kI h v0 13) ≤ v1 → (kT h v0 = 12 ∧ kR h v0 19 = some (rf h v0 19) ∧ (kT h (rf h v0 19) = 50 ∧ vp_in v1 (kN h (rf h v0 19)) ∧ (∀ h13 : Hp, h13 = wI h (rf h v0 19) (Int32.toNatClampNeg v1) (-1) → X G M Q 2 [(0, .ref v0), (1, .int (v1 + 1))] [] h13)))))) : X G M Q 2 [(0, .ref v0), (1, .int v1)] [] h := by
  refine x_iload_n hM d_Mo_forward_2 rfl 1 rfl ?_
  refine x_aload_n hM d_Mo_forward_3 rfl 0 rfl ?_
  obtain ⟨c19, F⟩ := F
  refine x_geti hG hM ck_Mo 13 (Nat.le_of_ble_eq_true rfl) rfl rfl w_910 rfl d_Mo_forward_4 c19 ?_
  refine x_icmp_ge (tgt := 23) hM d_Mo_forward_7 (by decide) (fun q18 => ?_) (fun q18 => ?_)
  · replace F := F.1 q18
    refine x_aload_n hM d_Mo_forward_23 rfl 0 rfl ?_
    obtain ⟨c11, F⟩ := F
    obtain ⟨c12, F⟩ := F
    refine x_getr hG hM ck_Mo 19 (Nat.le_of_ble_eq_true rfl) rfl rfl w_916 rfl d_Mo_forward_24 c11 c12 ?_
    refine x_aload_n hM d_Mo_forward_27 rfl 0 rfl ?_
    obtain ⟨c10, F⟩ := F
    refine x_geti hG hM ck_Mo 2 (Nat.le_of_ble_eq_true rfl) rfl rfl w_899 rfl d_Mo_forward_28 c10 ?_
    refine x_iconst (v := 0) hM d_Mo_forward_31 (by decide) ?_
    obtain ⟨c8, F⟩ := F
    obtain ⟨c9, F⟩ := F
    obtain ⟨h1, eh1⟩ : ∃ z : Hp, z = wI h (rf h v0 19) (Int32.toNatClampNeg (kI h v0 2)) 0 := ⟨_, rfl⟩
    replace F := F h1 eh1
    refine x_iastore hG hM d_Mo_forward_32 c8 c9 ?_
    rw [← eh1]
    clear eh1
    refine x_aload_n hM d_Mo_forward_33 rfl 0 rfl ?_
    obtain ⟨c6, F⟩ := F
    obtain ⟨c7, F⟩ := F
    refine x_getr hG hM ck_Mo 23 (Nat.le_of_ble_eq_true rfl) rfl rfl w_920 rfl d_Mo_forward_34 c6 c7 ?_
    refine x_iconst (v := 0) hM d_Mo_forward_37 (by decide) ?_
    refine x_aload_n hM d_Mo_forward_38 rfl 0 rfl ?_
    obtain ⟨c5, F⟩ := F
    refine x_geti hG hM ck_Mo 2 (Nat.le_of_ble_eq_true rfl) rfl rfl w_899 rfl d_Mo_forward_39 c5 ?_
    obtain ⟨c3, F⟩ := F
    obtain ⟨c4, F⟩ := F
    obtain ⟨h2, eh2⟩ : ∃ z : Hp, z = wI h1 (rf h1 v0 23) (Int32.toNatClampNeg 0) (kI h1 v0 2) := ⟨_, rfl⟩
    replace F := F h2 eh2
    refine x_iastore hG hM d_Mo_forward_42 c3 c4 ?_
    rw [← eh2]
    clear eh2
    refine x_iconst (v := 1) hM d_Mo_forward_43 (by decide) ?_
    refine x_istore_n (lv2 := [(1, .int 1), (0, .ref v0)]) hM d_Mo_forward_44 rfl (Nat.le_of_ble_eq_true rfl) rfl ?_
    refine x_iconst (v := 0) hM d_Mo_forward_45 (by decide) ?_
    refine x_istore_n (lv2 := [(2, .int 0), (1, .int 1), (0, .ref v0)]) hM d_Mo_forward_46 rfl (Nat.le_of_ble_eq_true rfl) rfl ?_
    refine x_sub [2, 1, 0] rfl ?_
    exact F
  · replace F := F.2 q18
    refine x_aload_n hM d_Mo_forward_10 rfl 0 rfl ?_
    obtain ⟨c16, F⟩ := F
    obtain ⟨c17, F⟩ := F
    refine x_getr hG hM ck_Mo 19 (Nat.le_of_ble_eq_true rfl) rfl rfl w_916 rfl d_Mo_forward_11 c16 c17 ?_
    refine x_iload_n hM d_Mo_forward_14 rfl 1 rfl ?_
    refine x_iconst (v := (-1)) hM d_Mo_forward_15 (by decide) ?_
    obtain ⟨c14, F⟩ := F
    obtain ⟨c15, F⟩ := F
    obtain ⟨h13, eh13⟩ : ∃ z : Hp, z = wI h (rf h v0 19) (Int32.toNatClampNeg v1) (-1) := ⟨_, rfl⟩
    replace F := F h13 eh13
    refine x_iastore hG hM d_Mo_forward_16 c14 c15 ?_
    rw [← eh13]
    clear eh13
    refine x_iinc (v := (v1 + 1)) (lv2 := [(1, .int (v1 + 1)), (0, .ref v0)]) hM d_Mo_forward_17 (j := 1) rfl rfl (Nat.le_of_ble_eq_true rfl) rfl ?_
    refine x_goto (tgt := 2) hM d_Mo_forward_20 (by decide) ?_
    refine x_sub [1, 0] rfl ?_
    exact F
set_option maxRecDepth 100000 in
set_option maxHeartbeats 4000000 in
theorem S_Mo_forward_47 {G : Gc} {M : Mc} {Q : State → Prop} {K : Option Value → Hp → Prop} (hG : gok G) (hM : mok G M r_Mo_forward Q K) (v0 : Nat) (v1 : Int32) (v2 : Int32) (h : Hp) (F : (v1 ≤ v2 → K none h) ∧ (¬ v1 ≤ v2 → (kT h v0 = 12 ∧ kR h v0 23 = some (rf h v0 23) ∧ (kT h (rf h v0 23) = 50 ∧ vp_in v2 (kN h (rf h v0 23)) ∧ X G M Q 62 [(0, .ref v0), (1, .int v1), (2, .int v2), (3, .int (kI h (rf h v0 23) (Int32.toNatClampNeg v2))), (4, .int 0)] [] h)))) : X G M Q 47 [(0, .ref v0), (1, .int v1), (2, .int v2)] [] h := by
  refine x_iload_n hM d_Mo_forward_47 rfl 2 rfl ?_
  refine x_iload_n hM d_Mo_forward_48 rfl 1 rfl ?_
  refine x_icmp_ge (tgt := 142) hM d_Mo_forward_49 (by decide) (fun q5 => ?_) (fun q5 => ?_)
  · replace F := F.1 q5
    exact x_return hM d_Mo_forward_142 rfl F
  · replace F := F.2 q5
    refine x_aload_n hM d_Mo_forward_52 rfl 0 rfl ?_
    obtain ⟨c3, F⟩ := F
    obtain ⟨c4, F⟩ := F
    refine x_getr hG hM ck_Mo 23 (Nat.le_of_ble_eq_true rfl) rfl rfl w_920 rfl d_Mo_forward_53 c3 c4 ?_
    refine x_iload_n hM d_Mo_forward_56 rfl 2 rfl ?_
    obtain ⟨c1, F⟩ := F
    obtain ⟨c2, F⟩ := F
    refine x_iaload hG hM d_Mo_forward_57 c1 c2 ?_
    refine x_istore_n (lv2 := [(3, .int (kI h (rf h v0 23) (Int32.toNatClampNeg v2))), (0, .ref v0), (1, .int v1), (2, .int v2)]) hM d_Mo_forward_58 rfl (Nat.le_of_ble_eq_true rfl) rfl ?_
    refine x_iconst (v := 0) hM d_Mo_forward_59 (by decide) ?_
    refine x_istore (lv2 := [(4, .int 0), (3, .int (kI h (rf h v0 23) (Int32.toNatClampNeg v2))), (0, .ref v0), (1, .int v1), (2, .int v2)]) hM d_Mo_forward_60 (Nat.le_of_ble_eq_true rfl) rfl ?_
    refine x_sub [2, 3, 4, 1, 0] rfl ?_
    exact F
set_option maxRecDepth 100000 in
set_option maxHeartbeats 4000000 in
theorem S_Mo_forward_62 {G : Gc} {M : Mc} {Q : State → Prop} {K : Option Value → Hp → Prop} (hG : gok G) (hM : mok G M r_Mo_forward Q K) (v0 : Nat) (v1 : Int32) (v2 : Int32) (v3 : Int32) (v4 : Int32) (h : Hp) (F : kT h v0 = 12 ∧ (((3 * (kI h v0 3)) ≤ v4 → X G M Q 47 [(0, .ref v0), (1, .int v1), (2, .int (v2 + 1))] [] h) ∧ (¬ (3 * (kI h v0 3)) ≤ v4 → (kT h v0 = 12 ∧ kR h v0 14 = some (rf h v0 14) ∧ (kT h (rf h v0 14) = 50 ∧ vp_in ((36 * v3) + v4) (kN h (rf h v0 14)) ∧ (((kI h (rf h v0 14) (Int32.toNatClampNeg ((36 * v3) + v4))) = (-1) → X G M Q 62 [(0, .ref v0), (1, .int v1), (2, .int v2), (3, .int v3), (4, .int (v4 + 1))] [] h) ∧ (¬ (kI h (rf h v0 14) (Int32.toNatClampNeg ((36 * v3) + v4))) = (-1) → (kT h v0 = 12 ∧ kR h v0 19 = some (rf h v0 19) ∧ (kT h (rf h v0 19) = 50 ∧ vp_in (kI h (rf h v0 14) (Int32.toNatClampNeg ((36 * v3) + v4))) (kN h (rf h v0 19)) ∧ (((kI h (rf h v0 19) (Int32.toNatClampNeg (kI h (rf h v0 14) (Int32.toNatClampNeg ((36 * v3) + v4))))) = (-1) → (kT h v0 = 12 ∧ kR h v0 19 = some (rf h v0 19) ∧ (kT h v0 = 12 ∧ kR h v0 19 = some (rf h v0 19) ∧ (kT h (rf h v0 19) = 50 ∧ vp_in v3 (kN h (rf h v0 19)) ∧ (kT h (rf h v0 19) = 50 ∧ vp_in (kI h (rf h v0 14) (Int32.toNatClampNeg ((36 * v3) + v4))) (kN h (rf h v0 19)) ∧ (∀ h1 : Hp, h1 = wI h (rf h v0 19) (Int32.toNatClampNeg (kI h (rf h v0 14) (Int32.toNatClampNeg ((36 * v3) + v4)))) ((kI h (rf h v0 19) (Int32.toNatClampNeg v3)) + 1) → (kT h1 v0 = 12 ∧ kR h1 v0 23 = some (rf h1 v0 23) ∧ (kT h1 (rf h1 v0 23) = 50 ∧ vp_in v1 (kN h1 (rf h1 v0 23)) ∧ (∀ h2 : Hp, h2 = wI h1 (rf h1 v0 23) (Int32.toNatClampNeg v1) (kI h (rf h v0 14) (Int32.toNatClampNeg ((36 * v3) + v4))) → X G M Q 62 [(0, .ref v0), (1, .int (v1 + 1)), (2, .int v2), (3, .int v3), (4, .int (v4 + 1))] [] h2))))))))) ∧ (¬ (kI h (rf h v0 19) (Int32.toNatClampNeg (kI h (rf h v0 14) (Int32.toNatClampNeg ((36 * v3) + v4))))) = (-1) → X G M Q 62 [(0, .ref v0), (1, .int v1), (2, .int v2), (3, .int v3), (4, .int (v4 + 1))] [] h))))))))))) : X G M Q 62 [(0, .ref v0), (1, .int v1), (2, .int v2), (3, .int v3), (4, .int v4)] [] h := by
  refine x_iload hM d_Mo_forward_62 4 rfl ?_
  refine x_iconst (v := 3) hM d_Mo_forward_64 (by decide) ?_
  refine x_aload_n hM d_Mo_forward_65 rfl 0 rfl ?_
  obtain ⟨c26, F⟩ := F
  refine x_geti hG hM ck_Mo 3 (Nat.le_of_ble_eq_true rfl) rfl rfl w_900 rfl d_Mo_forward_66 c26 ?_
  refine x_imul hM d_Mo_forward_69 ?_
  refine x_icmp_ge (tgt := 136) hM d_Mo_forward_70 (by decide) (fun q25 => ?_) (fun q25 => ?_)
  · replace F := F.1 q25
    refine x_iinc (v := (v2 + 1)) (lv2 := [(2, .int (v2 + 1)), (0, .ref v0), (1, .int v1), (3, .int v3), (4, .int v4)]) hM d_Mo_forward_136 (j := 2) rfl rfl (Nat.le_of_ble_eq_true rfl) rfl ?_
    refine x_goto (tgt := 47) hM d_Mo_forward_139 (by decide) ?_
    refine x_sub [1, 2, 0] rfl ?_
    exact F
  · replace F := F.2 q25
    refine x_aload_n hM d_Mo_forward_73 rfl 0 rfl ?_
    obtain ⟨c23, F⟩ := F
    obtain ⟨c24, F⟩ := F
    refine x_getr hG hM ck_Mo 14 (Nat.le_of_ble_eq_true rfl) rfl rfl w_911 rfl d_Mo_forward_74 c23 c24 ?_
    refine x_bipush (v := 36) hM d_Mo_forward_77 (by decide) ?_
    refine x_iload_n hM d_Mo_forward_79 rfl 3 rfl ?_
    refine x_imul hM d_Mo_forward_80 ?_
    refine x_iload hM d_Mo_forward_81 4 rfl ?_
    refine x_iadd hM d_Mo_forward_83 ?_
    obtain ⟨c21, F⟩ := F
    obtain ⟨c22, F⟩ := F
    refine x_iaload hG hM d_Mo_forward_84 c21 c22 ?_
    refine x_istore (lv2 := [(5, .int (kI h (rf h v0 14) (Int32.toNatClampNeg ((36 * v3) + v4)))), (0, .ref v0), (1, .int v1), (2, .int v2), (3, .int v3), (4, .int v4)]) hM d_Mo_forward_85 (Nat.le_of_ble_eq_true rfl) rfl ?_
    refine x_iload hM d_Mo_forward_87 0 rfl ?_
    refine x_iconst (v := (-1)) hM d_Mo_forward_89 (by decide) ?_
    refine x_icmp_eq (tgt := 130) hM d_Mo_forward_90 (by decide) (fun q20 => ?_) (fun q20 => ?_)
    · replace F := F.1 q20
      refine x_iinc (v := (v4 + 1)) (lv2 := [(4, .int (v4 + 1)), (5, .int (kI h (rf h v0 14) (Int32.toNatClampNeg ((36 * v3) + v4)))), (0, .ref v0), (1, .int v1), (2, .int v2), (3, .int v3)]) hM d_Mo_forward_130 (j := 5) rfl rfl (Nat.le_of_ble_eq_true rfl) rfl ?_
      refine x_goto (tgt := 62) hM d_Mo_forward_133 (by decide) ?_
      refine x_sub [2, 3, 4, 5, 0] rfl ?_
      exact F
    · replace F := F.2 q20
      refine x_aload_n hM d_Mo_forward_93 rfl 1 rfl ?_
      obtain ⟨c18, F⟩ := F
      obtain ⟨c19, F⟩ := F
      refine x_getr hG hM ck_Mo 19 (Nat.le_of_ble_eq_true rfl) rfl rfl w_916 rfl d_Mo_forward_94 c18 c19 ?_
      refine x_iload hM d_Mo_forward_97 0 rfl ?_
      obtain ⟨c16, F⟩ := F
      obtain ⟨c17, F⟩ := F
      refine x_iaload hG hM d_Mo_forward_99 c16 c17 ?_
      refine x_iconst (v := (-1)) hM d_Mo_forward_100 (by decide) ?_
      refine x_icmp_ne (tgt := 130) hM d_Mo_forward_101 (by decide) (fun q15 => ?_) (fun q15 => ?_)
      · replace F := F.2 q15
        refine x_iinc (v := (v4 + 1)) (lv2 := [(4, .int (v4 + 1)), (5, .int (kI h (rf h v0 14) (Int32.toNatClampNeg ((36 * v3) + v4)))), (0, .ref v0), (1, .int v1), (2, .int v2), (3, .int v3)]) hM d_Mo_forward_130 (j := 5) rfl rfl (Nat.le_of_ble_eq_true rfl) rfl ?_
        refine x_goto (tgt := 62) hM d_Mo_forward_133 (by decide) ?_
        refine x_sub [2, 3, 4, 5, 0] rfl ?_
        exact F
      · replace F := F.1 q15
        refine x_aload_n hM d_Mo_forward_104 rfl 1 rfl ?_
        obtain ⟨c13, F⟩ := F
        obtain ⟨c14, F⟩ := F
        refine x_getr hG hM ck_Mo 19 (Nat.le_of_ble_eq_true rfl) rfl rfl w_916 rfl d_Mo_forward_105 c13 c14 ?_
        refine x_iload hM d_Mo_forward_108 0 rfl ?_
        refine x_aload_n hM d_Mo_forward_110 rfl 1 rfl ?_
        obtain ⟨c11, F⟩ := F
        obtain ⟨c12, F⟩ := F
        refine x_getr hG hM ck_Mo 19 (Nat.le_of_ble_eq_true rfl) rfl rfl w_916 rfl d_Mo_forward_111 c11 c12 ?_
        refine x_iload_n hM d_Mo_forward_114 rfl 4 rfl ?_
        obtain ⟨c9, F⟩ := F
        obtain ⟨c10, F⟩ := F
        refine x_iaload hG hM d_Mo_forward_115 c9 c10 ?_
        refine x_iconst (v := 1) hM d_Mo_forward_116 (by decide) ?_
        refine x_iadd hM d_Mo_forward_117 ?_
        obtain ⟨c7, F⟩ := F
        obtain ⟨c8, F⟩ := F
        obtain ⟨h1, eh1⟩ : ∃ z : Hp, z = wI h (rf h v0 19) (Int32.toNatClampNeg (kI h (rf h v0 14) (Int32.toNatClampNeg ((36 * v3) + v4)))) ((kI h (rf h v0 19) (Int32.toNatClampNeg v3)) + 1) := ⟨_, rfl⟩
        replace F := F h1 eh1
        refine x_iastore hG hM d_Mo_forward_118 c7 c8 ?_
        rw [← eh1]
        clear eh1
        refine x_aload_n hM d_Mo_forward_119 rfl 1 rfl ?_
        obtain ⟨c5, F⟩ := F
        obtain ⟨c6, F⟩ := F
        refine x_getr hG hM ck_Mo 23 (Nat.le_of_ble_eq_true rfl) rfl rfl w_920 rfl d_Mo_forward_120 c5 c6 ?_
        refine x_iload_n hM d_Mo_forward_123 rfl 2 rfl ?_
        refine x_iload hM d_Mo_forward_124 0 rfl ?_
        obtain ⟨c3, F⟩ := F
        obtain ⟨c4, F⟩ := F
        obtain ⟨h2, eh2⟩ : ∃ z : Hp, z = wI h1 (rf h1 v0 23) (Int32.toNatClampNeg v1) (kI h (rf h v0 14) (Int32.toNatClampNeg ((36 * v3) + v4))) := ⟨_, rfl⟩
        replace F := F h2 eh2
        refine x_iastore hG hM d_Mo_forward_126 c3 c4 ?_
        rw [← eh2]
        clear eh2
        refine x_iinc (v := (v1 + 1)) (lv2 := [(1, .int (v1 + 1)), (5, .int (kI h (rf h v0 14) (Int32.toNatClampNeg ((36 * v3) + v4)))), (0, .ref v0), (2, .int v2), (3, .int v3), (4, .int v4)]) hM d_Mo_forward_127 (j := 2) rfl rfl (Nat.le_of_ble_eq_true rfl) rfl ?_
        refine x_iinc (v := (v4 + 1)) (lv2 := [(4, .int (v4 + 1)), (1, .int (v1 + 1)), (5, .int (kI h (rf h v0 14) (Int32.toNatClampNeg ((36 * v3) + v4)))), (0, .ref v0), (2, .int v2), (3, .int v3)]) hM d_Mo_forward_130 (j := 5) rfl rfl (Nat.le_of_ble_eq_true rfl) rfl ?_
        refine x_goto (tgt := 62) hM d_Mo_forward_133 (by decide) ?_
        refine x_sub [3, 1, 4, 5, 0] rfl ?_
        exact F
