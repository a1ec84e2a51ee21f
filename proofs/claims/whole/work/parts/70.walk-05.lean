/-! The bytecode comes to what the functions answer; printed by wip/gen/gen.py -/
theorem b_Mo_init_347 : ∀ (n : Nat) (a0 : Nat) (a2 : Int) (h : zH) (r : zH), f_Mo_init_347 n a0 a2 h = some r → zK m_Mo_init 347 [(0, (2, ((a0 : Nat) : Int))), (2, (0, a2))] [] h (none, r) := by
  intro n
  induction n with
  | zero =>
    intro a0 a2 h r hf
    cases hf
  | succ n ih =>
    intro a0 a2 h r hf
    unfold f_Mo_init_347 at hf
    refine k_iload_n (pc := 347) rfl z_m1 d_Mo_init_347 ?_
    refine k_bipush (pc := 348) (zi_lit rfl) (by decide) d_Mo_init_348 ?_
    rcases z_it hf with ⟨w5, hf⟩ | ⟨w5, hf⟩
    · refine k_ic_ge_t (pc := 350) (tgt := 366) w5 d_Mo_init_350 rfl ?_
      refine k_aload_n (pc := 366) rfl z_m0 d_Mo_init_366 ?_
      obtain ⟨v1, e_v1, hf⟩ := z_bd hf
      refine k_getR (pc := 367) d_Mo_init_367 fd_Mo_13 rfl e_v1 ?_
      refine k_iconst (pc := 370) (zi_lit rfl) d_Mo_init_370 ?_
      refine k_iconst (pc := 371) (zi_lit rfl) d_Mo_init_371 ?_
      obtain ⟨h2, e_h2, hf⟩ := z_bd hf
      refine k_zast (pc := 372) d_Mo_init_372 e_h2 ?_
      cases hf
      exact k_ret (pc := 373) d_Mo_init_373 rfl
    · refine k_ic_ge_f (pc := 350) (tgt := 366) w5 d_Mo_init_350 rfl ?_
      refine k_aload_n (pc := 353) rfl z_m0 d_Mo_init_353 ?_
      obtain ⟨v3, e_v3, hf⟩ := z_bd hf
      refine k_getR (pc := 354) d_Mo_init_354 fd_Mo_23 rfl e_v3 ?_
      refine k_iload_n (pc := 357) rfl z_m1 d_Mo_init_357 ?_
      refine k_iconst (pc := 358) (zi_lit rfl) d_Mo_init_358 ?_
      obtain ⟨h4, e_h4, hf⟩ := z_bd hf
      refine k_iast (pc := 359) d_Mo_init_359 e_h4 ?_
      refine k_iinc (pc := 360) (L' := [(2, (0, zw (a2 + 1))), (0, (2, ((a0 : Nat) : Int)))]) z_m1 d_Mo_init_360 (Nat.le_of_ble_eq_true rfl) rfl ?_
      refine k_goto (pc := 363) (tgt := 347) d_Mo_init_363 rfl ?_
      refine k_sub [1, 0] rfl ?_
      exact ih a0 (zw (a2 + 1)) h4 _ hf
theorem b_Mo_init_342 (a0 : Nat) (s0 : Nat) (s1 : Int) (h : zH) (r : zH) (hf : f_Mo_init_342 a0 s0 s1 h = some r) : zK m_Mo_init 342 [(0, (2, ((a0 : Nat) : Int)))] [(0, s1), (2, ((s0 : Nat) : Int))] h (none, r) := by
  unfold f_Mo_init_342 at hf
  obtain ⟨h6, e_h6, hf⟩ := z_bd hf
  refine k_putI (pc := 342) d_Mo_init_342 fd_Mo_125 (fun q => by cases q) rfl e_h6 ?_
  refine k_iconst (pc := 345) (zi_lit rfl) d_Mo_init_345 ?_
  refine k_istore_n (pc := 346) (L' := [(2, (0, 0)), (0, (2, ((a0 : Nat) : Int)))]) rfl d_Mo_init_346 (Nat.le_of_ble_eq_true rfl) rfl ?_
  refine k_sub [1, 0] rfl ?_
  exact b_Mo_init_347 100000 a0 0 h6 _ hf
theorem b_Mo_init_0 (a0 : Nat) (a1 : Int) (h : zH) (r : zH) (hf : f_Mo_init a0 a1 h = some r) : zK m_Mo_init 0 [(0, (2, ((a0 : Nat) : Int))), (1, (0, a1))] [] h (none, r) := by
  unfold f_Mo_init at hf
  refine k_aload_n (pc := 0) rfl z_m0 d_Mo_init_0 ?_
  refine k_obj (pc := 1) d_Mo_init_1 w_Mo_1 w_obj1 w_obj2 (by decide) (Nat.le_of_ble_eq_true rfl) ?_
  refine k_aload_n (pc := 4) rfl z_m0 d_Mo_init_4 ?_
  refine k_bipush (pc := 5) (zi_lit rfl) (by decide) d_Mo_init_5 ?_
  obtain ⟨h7, e_h7, hf⟩ := z_bd hf
  refine k_nwi (pc := 7) d_Mo_init_7 w_ac20 e_h7 ?_
  obtain ⟨h8, e_h8, hf⟩ := z_bd hf
  refine k_putR (pc := 9) (Or.inr ⟨_, rfl⟩) d_Mo_init_9 fd_Mo_7 (fun q => by cases q) rfl e_h8 ?_
  refine k_aload_n (pc := 12) rfl z_m0 d_Mo_init_12 ?_
  refine k_bipush (pc := 13) (zi_lit rfl) (by decide) d_Mo_init_13 ?_
  obtain ⟨h9, e_h9, hf⟩ := z_bd hf
  refine k_nwz (pc := 15) d_Mo_init_15 w_ac22 e_h9 ?_
  obtain ⟨h10, e_h10, hf⟩ := z_bd hf
  refine k_putR (pc := 17) (Or.inr ⟨_, rfl⟩) d_Mo_init_17 fd_Mo_13 (fun q => by cases q) rfl e_h10 ?_
  refine k_aload_n (pc := 20) rfl z_m0 d_Mo_init_20 ?_
  refine k_bipush (pc := 21) (zi_lit rfl) (by decide) d_Mo_init_21 ?_
  obtain ⟨h11, e_h11, hf⟩ := z_bd hf
  refine k_nwi (pc := 23) d_Mo_init_23 w_ac20 e_h11 ?_
  obtain ⟨h12, e_h12, hf⟩ := z_bd hf
  refine k_putR (pc := 25) (Or.inr ⟨_, rfl⟩) d_Mo_init_25 fd_Mo_17 (fun q => by cases q) rfl e_h12 ?_
  refine k_aload_n (pc := 28) rfl z_m0 d_Mo_init_28 ?_
  refine k_bipush (pc := 29) (zi_lit rfl) (by decide) d_Mo_init_29 ?_
  obtain ⟨h13, e_h13, hf⟩ := z_bd hf
  refine k_nwi (pc := 31) d_Mo_init_31 w_ac20 e_h13 ?_
  obtain ⟨h14, e_h14, hf⟩ := z_bd hf
  refine k_putR (pc := 33) (Or.inr ⟨_, rfl⟩) d_Mo_init_33 fd_Mo_20 (fun q => by cases q) rfl e_h14 ?_
  refine k_aload_n (pc := 36) rfl z_m0 d_Mo_init_36 ?_
  refine k_bipush (pc := 37) (zi_lit rfl) (by decide) d_Mo_init_37 ?_
  obtain ⟨h15, e_h15, hf⟩ := z_bd hf
  refine k_nwi (pc := 39) d_Mo_init_39 w_ac20 e_h15 ?_
  obtain ⟨h16, e_h16, hf⟩ := z_bd hf
  refine k_putR (pc := 41) (Or.inr ⟨_, rfl⟩) d_Mo_init_41 fd_Mo_23 (fun q => by cases q) rfl e_h16 ?_
  refine k_aload_n (pc := 44) rfl z_m0 d_Mo_init_44 ?_
  refine k_bipush (pc := 45) (zi_lit rfl) (by decide) d_Mo_init_45 ?_
  obtain ⟨h17, e_h17, hf⟩ := z_bd hf
  refine k_nwi (pc := 47) d_Mo_init_47 w_ac20 e_h17 ?_
  obtain ⟨h18, e_h18, hf⟩ := z_bd hf
  refine k_putR (pc := 49) (Or.inr ⟨_, rfl⟩) d_Mo_init_49 fd_Mo_26 (fun q => by cases q) rfl e_h18 ?_
  refine k_aload_n (pc := 52) rfl z_m0 d_Mo_init_52 ?_
  refine k_sipush (pc := 53) (zi_lit rfl) (by decide) d_Mo_init_53 ?_
  obtain ⟨h19, e_h19, hf⟩ := z_bd hf
  refine k_nwi (pc := 56) d_Mo_init_56 w_ac20 e_h19 ?_
  obtain ⟨h20, e_h20, hf⟩ := z_bd hf
  refine k_putR (pc := 58) (Or.inr ⟨_, rfl⟩) d_Mo_init_58 fd_Mo_29 (fun q => by cases q) rfl e_h20 ?_
  refine k_aload_n (pc := 61) rfl z_m0 d_Mo_init_61 ?_
  refine k_sipush (pc := 62) (zi_lit rfl) (by decide) d_Mo_init_62 ?_
  obtain ⟨h21, e_h21, hf⟩ := z_bd hf
  refine k_nwi (pc := 65) d_Mo_init_65 w_ac20 e_h21 ?_
  obtain ⟨h22, e_h22, hf⟩ := z_bd hf
  refine k_putR (pc := 67) (Or.inr ⟨_, rfl⟩) d_Mo_init_67 fd_Mo_32 (fun q => by cases q) rfl e_h22 ?_
  refine k_aload_n (pc := 70) rfl z_m0 d_Mo_init_70 ?_
  refine k_sipush (pc := 71) (zi_lit rfl) (by decide) d_Mo_init_71 ?_
  obtain ⟨h23, e_h23, hf⟩ := z_bd hf
  refine k_nwi (pc := 74) d_Mo_init_74 w_ac20 e_h23 ?_
  obtain ⟨h24, e_h24, hf⟩ := z_bd hf
  refine k_putR (pc := 76) (Or.inr ⟨_, rfl⟩) d_Mo_init_76 fd_Mo_35 (fun q => by cases q) rfl e_h24 ?_
  refine k_aload_n (pc := 79) rfl z_m0 d_Mo_init_79 ?_
  refine k_sipush (pc := 80) (zi_lit rfl) (by decide) d_Mo_init_80 ?_
  obtain ⟨h25, e_h25, hf⟩ := z_bd hf
  refine k_nwi (pc := 83) d_Mo_init_83 w_ac20 e_h25 ?_
  obtain ⟨h26, e_h26, hf⟩ := z_bd hf
  refine k_putR (pc := 85) (Or.inr ⟨_, rfl⟩) d_Mo_init_85 fd_Mo_38 (fun q => by cases q) rfl e_h26 ?_
  refine k_aload_n (pc := 88) rfl z_m0 d_Mo_init_88 ?_
  refine k_sipush (pc := 89) (zi_lit rfl) (by decide) d_Mo_init_89 ?_
  obtain ⟨h27, e_h27, hf⟩ := z_bd hf
  refine k_nwi (pc := 92) d_Mo_init_92 w_ac20 e_h27 ?_
  obtain ⟨h28, e_h28, hf⟩ := z_bd hf
  refine k_putR (pc := 94) (Or.inr ⟨_, rfl⟩) d_Mo_init_94 fd_Mo_41 (fun q => by cases q) rfl e_h28 ?_
  refine k_aload_n (pc := 97) rfl z_m0 d_Mo_init_97 ?_
  refine k_sipush (pc := 98) (zi_lit rfl) (by decide) d_Mo_init_98 ?_
  obtain ⟨h29, e_h29, hf⟩ := z_bd hf
  refine k_nwi (pc := 101) d_Mo_init_101 w_ac20 e_h29 ?_
  obtain ⟨h30, e_h30, hf⟩ := z_bd hf
  refine k_putR (pc := 103) (Or.inr ⟨_, rfl⟩) d_Mo_init_103 fd_Mo_44 (fun q => by cases q) rfl e_h30 ?_
  refine k_aload_n (pc := 106) rfl z_m0 d_Mo_init_106 ?_
  refine k_sipush (pc := 107) (zi_lit rfl) (by decide) d_Mo_init_107 ?_
  obtain ⟨h31, e_h31, hf⟩ := z_bd hf
  refine k_nwi (pc := 110) d_Mo_init_110 w_ac20 e_h31 ?_
  obtain ⟨h32, e_h32, hf⟩ := z_bd hf
  refine k_putR (pc := 112) (Or.inr ⟨_, rfl⟩) d_Mo_init_112 fd_Mo_47 (fun q => by cases q) rfl e_h32 ?_
  refine k_aload_n (pc := 115) rfl z_m0 d_Mo_init_115 ?_
  refine k_bipush (pc := 116) (zi_lit rfl) (by decide) d_Mo_init_116 ?_
  obtain ⟨h33, e_h33, hf⟩ := z_bd hf
  refine k_nwi (pc := 118) d_Mo_init_118 w_ac20 e_h33 ?_
  obtain ⟨h34, e_h34, hf⟩ := z_bd hf
  refine k_putR (pc := 120) (Or.inr ⟨_, rfl⟩) d_Mo_init_120 fd_Mo_50 (fun q => by cases q) rfl e_h34 ?_
  refine k_aload_n (pc := 123) rfl z_m0 d_Mo_init_123 ?_
  refine k_iconst (pc := 124) (zi_lit rfl) d_Mo_init_124 ?_
  obtain ⟨h35, e_h35, hf⟩ := z_bd hf
  refine k_nwi (pc := 125) d_Mo_init_125 w_ac20 e_h35 ?_
  obtain ⟨h36, e_h36, hf⟩ := z_bd hf
  refine k_putR (pc := 127) (Or.inr ⟨_, rfl⟩) d_Mo_init_127 fd_Mo_53 (fun q => by cases q) rfl e_h36 ?_
  refine k_aload_n (pc := 130) rfl z_m0 d_Mo_init_130 ?_
  refine k_iconst (pc := 131) (zi_lit rfl) d_Mo_init_131 ?_
  obtain ⟨h37, e_h37, hf⟩ := z_bd hf
  refine k_nwi (pc := 132) d_Mo_init_132 w_ac20 e_h37 ?_
  obtain ⟨h38, e_h38, hf⟩ := z_bd hf
  refine k_putR (pc := 134) (Or.inr ⟨_, rfl⟩) d_Mo_init_134 fd_Mo_56 (fun q => by cases q) rfl e_h38 ?_
  refine k_aload_n (pc := 137) rfl z_m0 d_Mo_init_137 ?_
  refine k_iconst (pc := 138) (zi_lit rfl) d_Mo_init_138 ?_
  obtain ⟨h39, e_h39, hf⟩ := z_bd hf
  refine k_nwz (pc := 139) d_Mo_init_139 w_ac22 e_h39 ?_
  obtain ⟨h40, e_h40, hf⟩ := z_bd hf
  refine k_putR (pc := 141) (Or.inr ⟨_, rfl⟩) d_Mo_init_141 fd_Mo_59 (fun q => by cases q) rfl e_h40 ?_
  refine k_aload_n (pc := 144) rfl z_m0 d_Mo_init_144 ?_
  refine k_iconst (pc := 145) (zi_lit rfl) d_Mo_init_145 ?_
  obtain ⟨h41, e_h41, hf⟩ := z_bd hf
  refine k_nwz (pc := 146) d_Mo_init_146 w_ac22 e_h41 ?_
  obtain ⟨h42, e_h42, hf⟩ := z_bd hf
  refine k_putR (pc := 148) (Or.inr ⟨_, rfl⟩) d_Mo_init_148 fd_Mo_62 (fun q => by cases q) rfl e_h42 ?_
  refine k_aload_n (pc := 151) rfl z_m0 d_Mo_init_151 ?_
  refine k_bipush (pc := 152) (zi_lit rfl) (by decide) d_Mo_init_152 ?_
  obtain ⟨h43, e_h43, hf⟩ := z_bd hf
  refine k_nwi (pc := 154) d_Mo_init_154 w_ac20 e_h43 ?_
  obtain ⟨h44, e_h44, hf⟩ := z_bd hf
  refine k_putR (pc := 156) (Or.inr ⟨_, rfl⟩) d_Mo_init_156 fd_Mo_65 (fun q => by cases q) rfl e_h44 ?_
  refine k_aload_n (pc := 159) rfl z_m0 d_Mo_init_159 ?_
  refine k_sipush (pc := 160) (zi_lit rfl) (by decide) d_Mo_init_160 ?_
  obtain ⟨h45, e_h45, hf⟩ := z_bd hf
  refine k_nwi (pc := 163) d_Mo_init_163 w_ac20 e_h45 ?_
  obtain ⟨h46, e_h46, hf⟩ := z_bd hf
  refine k_putR (pc := 165) (Or.inr ⟨_, rfl⟩) d_Mo_init_165 fd_Mo_68 (fun q => by cases q) rfl e_h46 ?_
  refine k_aload_n (pc := 168) rfl z_m0 d_Mo_init_168 ?_
  refine k_iconst (pc := 169) (zi_lit rfl) d_Mo_init_169 ?_
  obtain ⟨h47, e_h47, hf⟩ := z_bd hf
  refine k_nwi (pc := 170) d_Mo_init_170 w_ac20 e_h47 ?_
  obtain ⟨h48, e_h48, hf⟩ := z_bd hf
  refine k_putR (pc := 172) (Or.inr ⟨_, rfl⟩) d_Mo_init_172 fd_Mo_71 (fun q => by cases q) rfl e_h48 ?_
  refine k_aload_n (pc := 175) rfl z_m0 d_Mo_init_175 ?_
  refine k_bipush (pc := 176) (zi_lit rfl) (by decide) d_Mo_init_176 ?_
  obtain ⟨h49, e_h49, hf⟩ := z_bd hf
  refine k_nwi (pc := 178) d_Mo_init_178 w_ac20 e_h49 ?_
  obtain ⟨h50, e_h50, hf⟩ := z_bd hf
  refine k_putR (pc := 180) (Or.inr ⟨_, rfl⟩) d_Mo_init_180 fd_Mo_74 (fun q => by cases q) rfl e_h50 ?_
  refine k_aload_n (pc := 183) rfl z_m0 d_Mo_init_183 ?_
  refine k_bipush (pc := 184) (zi_lit rfl) (by decide) d_Mo_init_184 ?_
  obtain ⟨h51, e_h51, hf⟩ := z_bd hf
  refine k_nwi (pc := 186) d_Mo_init_186 w_ac20 e_h51 ?_
  obtain ⟨h52, e_h52, hf⟩ := z_bd hf
  refine k_putR (pc := 188) (Or.inr ⟨_, rfl⟩) d_Mo_init_188 fd_Mo_77 (fun q => by cases q) rfl e_h52 ?_
  refine k_aload_n (pc := 191) rfl z_m0 d_Mo_init_191 ?_
  refine k_sipush (pc := 192) (zi_lit rfl) (by decide) d_Mo_init_192 ?_
  obtain ⟨h53, e_h53, hf⟩ := z_bd hf
  refine k_nwi (pc := 195) d_Mo_init_195 w_ac20 e_h53 ?_
  obtain ⟨h54, e_h54, hf⟩ := z_bd hf
  refine k_putR (pc := 197) (Or.inr ⟨_, rfl⟩) d_Mo_init_197 fd_Mo_80 (fun q => by cases q) rfl e_h54 ?_
  refine k_aload_n (pc := 200) rfl z_m0 d_Mo_init_200 ?_
  refine k_bipush (pc := 201) (zi_lit rfl) (by decide) d_Mo_init_201 ?_
  obtain ⟨h55, e_h55, hf⟩ := z_bd hf
  refine k_nwz (pc := 203) d_Mo_init_203 w_ac22 e_h55 ?_
  obtain ⟨h56, e_h56, hf⟩ := z_bd hf
  refine k_putR (pc := 205) (Or.inr ⟨_, rfl⟩) d_Mo_init_205 fd_Mo_83 (fun q => by cases q) rfl e_h56 ?_
  refine k_aload_n (pc := 208) rfl z_m0 d_Mo_init_208 ?_
  refine k_bipush (pc := 209) (zi_lit rfl) (by decide) d_Mo_init_209 ?_
  obtain ⟨h57, e_h57, hf⟩ := z_bd hf
  refine k_nwi (pc := 211) d_Mo_init_211 w_ac20 e_h57 ?_
  obtain ⟨h58, e_h58, hf⟩ := z_bd hf
  refine k_putR (pc := 213) (Or.inr ⟨_, rfl⟩) d_Mo_init_213 fd_Mo_86 (fun q => by cases q) rfl e_h58 ?_
  refine k_aload_n (pc := 216) rfl z_m0 d_Mo_init_216 ?_
  refine k_sipush (pc := 217) (zi_lit rfl) (by decide) d_Mo_init_217 ?_
  obtain ⟨h59, e_h59, hf⟩ := z_bd hf
  refine k_nwi (pc := 220) d_Mo_init_220 w_ac20 e_h59 ?_
  obtain ⟨h60, e_h60, hf⟩ := z_bd hf
  refine k_putR (pc := 222) (Or.inr ⟨_, rfl⟩) d_Mo_init_222 fd_Mo_89 (fun q => by cases q) rfl e_h60 ?_
  refine k_aload_n (pc := 225) rfl z_m0 d_Mo_init_225 ?_
  refine k_sipush (pc := 226) (zi_lit rfl) (by decide) d_Mo_init_226 ?_
  obtain ⟨h61, e_h61, hf⟩ := z_bd hf
  refine k_nwi (pc := 229) d_Mo_init_229 w_ac20 e_h61 ?_
  obtain ⟨h62, e_h62, hf⟩ := z_bd hf
  refine k_putR (pc := 231) (Or.inr ⟨_, rfl⟩) d_Mo_init_231 fd_Mo_92 (fun q => by cases q) rfl e_h62 ?_
  refine k_aload_n (pc := 234) rfl z_m0 d_Mo_init_234 ?_
  refine k_sipush (pc := 235) (zi_lit rfl) (by decide) d_Mo_init_235 ?_
  obtain ⟨h63, e_h63, hf⟩ := z_bd hf
  refine k_nwi (pc := 238) d_Mo_init_238 w_ac20 e_h63 ?_
  obtain ⟨h64, e_h64, hf⟩ := z_bd hf
  refine k_putR (pc := 240) (Or.inr ⟨_, rfl⟩) d_Mo_init_240 fd_Mo_95 (fun q => by cases q) rfl e_h64 ?_
  refine k_aload_n (pc := 243) rfl z_m0 d_Mo_init_243 ?_
  refine k_bipush (pc := 244) (zi_lit rfl) (by decide) d_Mo_init_244 ?_
  obtain ⟨h65, e_h65, hf⟩ := z_bd hf
  refine k_nwi (pc := 246) d_Mo_init_246 w_ac20 e_h65 ?_
  obtain ⟨h66, e_h66, hf⟩ := z_bd hf
  refine k_putR (pc := 248) (Or.inr ⟨_, rfl⟩) d_Mo_init_248 fd_Mo_98 (fun q => by cases q) rfl e_h66 ?_
  refine k_aload_n (pc := 251) rfl z_m0 d_Mo_init_251 ?_
  refine k_bipush (pc := 252) (zi_lit rfl) (by decide) d_Mo_init_252 ?_
  obtain ⟨h67, e_h67, hf⟩ := z_bd hf
  refine k_nwi (pc := 254) d_Mo_init_254 w_ac20 e_h67 ?_
  obtain ⟨h68, e_h68, hf⟩ := z_bd hf
  refine k_putR (pc := 256) (Or.inr ⟨_, rfl⟩) d_Mo_init_256 fd_Mo_101 (fun q => by cases q) rfl e_h68 ?_
  refine k_aload_n (pc := 259) rfl z_m0 d_Mo_init_259 ?_
  refine k_bipush (pc := 260) (zi_lit rfl) (by decide) d_Mo_init_260 ?_
  obtain ⟨h69, e_h69, hf⟩ := z_bd hf
  refine k_nwi (pc := 262) d_Mo_init_262 w_ac20 e_h69 ?_
  obtain ⟨h70, e_h70, hf⟩ := z_bd hf
  refine k_putR (pc := 264) (Or.inr ⟨_, rfl⟩) d_Mo_init_264 fd_Mo_104 (fun q => by cases q) rfl e_h70 ?_
  refine k_aload_n (pc := 267) rfl z_m0 d_Mo_init_267 ?_
  refine k_sipush (pc := 268) (zi_lit rfl) (by decide) d_Mo_init_268 ?_
  obtain ⟨h71, e_h71, hf⟩ := z_bd hf
  refine k_nwi (pc := 271) d_Mo_init_271 w_ac20 e_h71 ?_
  obtain ⟨h72, e_h72, hf⟩ := z_bd hf
  refine k_putR (pc := 273) (Or.inr ⟨_, rfl⟩) d_Mo_init_273 fd_Mo_107 (fun q => by cases q) rfl e_h72 ?_
  refine k_aload_n (pc := 276) rfl z_m0 d_Mo_init_276 ?_
  refine k_bipush (pc := 277) (zi_lit rfl) (by decide) d_Mo_init_277 ?_
  obtain ⟨h73, e_h73, hf⟩ := z_bd hf
  refine k_nwi (pc := 279) d_Mo_init_279 w_ac20 e_h73 ?_
  obtain ⟨h74, e_h74, hf⟩ := z_bd hf
  refine k_putR (pc := 281) (Or.inr ⟨_, rfl⟩) d_Mo_init_281 fd_Mo_110 (fun q => by cases q) rfl e_h74 ?_
  refine k_aload_n (pc := 284) rfl z_m0 d_Mo_init_284 ?_
  refine k_bipush (pc := 285) (zi_lit rfl) (by decide) d_Mo_init_285 ?_
  obtain ⟨h75, e_h75, hf⟩ := z_bd hf
  refine k_nwi (pc := 287) d_Mo_init_287 w_ac20 e_h75 ?_
  obtain ⟨h76, e_h76, hf⟩ := z_bd hf
  refine k_putR (pc := 289) (Or.inr ⟨_, rfl⟩) d_Mo_init_289 fd_Mo_113 (fun q => by cases q) rfl e_h76 ?_
  refine k_aload_n (pc := 292) rfl z_m0 d_Mo_init_292 ?_
  refine k_bipush (pc := 293) (zi_lit rfl) (by decide) d_Mo_init_293 ?_
  obtain ⟨h77, e_h77, hf⟩ := z_bd hf
  refine k_nwi (pc := 295) d_Mo_init_295 w_ac20 e_h77 ?_
  obtain ⟨h78, e_h78, hf⟩ := z_bd hf
  refine k_putR (pc := 297) (Or.inr ⟨_, rfl⟩) d_Mo_init_297 fd_Mo_116 (fun q => by cases q) rfl e_h78 ?_
  refine k_aload_n (pc := 300) rfl z_m0 d_Mo_init_300 ?_
  refine k_bipush (pc := 301) (zi_lit rfl) (by decide) d_Mo_init_301 ?_
  obtain ⟨h79, e_h79, hf⟩ := z_bd hf
  refine k_nwi (pc := 303) d_Mo_init_303 w_ac20 e_h79 ?_
  obtain ⟨h80, e_h80, hf⟩ := z_bd hf
  refine k_putR (pc := 305) (Or.inr ⟨_, rfl⟩) d_Mo_init_305 fd_Mo_119 (fun q => by cases q) rfl e_h80 ?_
  refine k_aload_n (pc := 308) rfl z_m0 d_Mo_init_308 ?_
  refine k_bipush (pc := 309) (zi_lit rfl) (by decide) d_Mo_init_309 ?_
  obtain ⟨h81, e_h81, hf⟩ := z_bd hf
  refine k_nwi (pc := 311) d_Mo_init_311 w_ac20 e_h81 ?_
  obtain ⟨h82, e_h82, hf⟩ := z_bd hf
  refine k_putR (pc := 313) (Or.inr ⟨_, rfl⟩) d_Mo_init_313 fd_Mo_122 (fun q => by cases q) rfl e_h82 ?_
  refine k_aload_n (pc := 316) rfl z_m0 d_Mo_init_316 ?_
  refine k_iload_n (pc := 317) rfl z_m1 d_Mo_init_317 ?_
  refine k_bipush (pc := 318) (zi_lit rfl) (by decide) d_Mo_init_318 ?_
  rcases z_it hf with ⟨w84, hf⟩ | ⟨w84, hf⟩
  · refine k_ic_ge_t (pc := 320) (tgt := 328) w84 d_Mo_init_320 rfl ?_
    refine k_iload_n (pc := 328) rfl z_m1 d_Mo_init_328 ?_
    refine k_sipush (pc := 329) (zi_lit rfl) (by decide) d_Mo_init_329 ?_
    rcases z_it hf with ⟨w83, hf⟩ | ⟨w83, hf⟩
    · refine k_ic_le_t (pc := 332) (tgt := 341) w83 d_Mo_init_332 rfl ?_
      refine k_iload_n (pc := 341) rfl z_m1 d_Mo_init_341 ?_
      refine k_sub [0] rfl ?_
      exact b_Mo_init_342 a0 a0 a1 h82 _ hf
    · refine k_ic_le_f (pc := 332) (tgt := 341) w83 d_Mo_init_332 rfl ?_
      refine k_sipush (pc := 335) (zi_lit rfl) (by decide) d_Mo_init_335 ?_
      refine k_goto (pc := 338) (tgt := 342) d_Mo_init_338 rfl ?_
      refine k_sub [0] rfl ?_
      exact b_Mo_init_342 a0 a0 300 h82 _ hf
  · refine k_ic_ge_f (pc := 320) (tgt := 328) w84 d_Mo_init_320 rfl ?_
    refine k_bipush (pc := 323) (zi_lit rfl) (by decide) d_Mo_init_323 ?_
    refine k_goto (pc := 325) (tgt := 342) d_Mo_init_325 rfl ?_
    refine k_sub [0] rfl ?_
    exact b_Mo_init_342 a0 a0 10 h82 _ hf
theorem t_Mo_init {a0 : Nat} {a1 : Int} {h : zH} {r : zH} (hf : f_Mo_init a0 a1 h = some r) : zMt m_Mo_init [(2, ((a0 : Nat) : Int)), (0, a1)] h (none, r) := zMt.of (by decide) (Nat.le_of_ble_eq_true rfl) (b_Mo_init_0 a0 a1 h r hf)
theorem b_Mo_type_71 (c9 : Nat → Int → Int → Int → zH → Option (Int × zH)) (k9 : ∀ (x0 : Nat) (x1 : Int) (x3 : Int) (x4 : Int) (g : zH) (r : Int × zH), c9 x0 x1 x3 x4 g = some r → zK m_Mo_type 9 [(0, (2, ((x0 : Nat) : Int))), (1, (1, x1)), (3, (0, x3)), (4, (0, x4))] [] g (some (0, r.1), r.2)) (a0 : Nat) (a1 : Int) (a3 : Int) (a4 : Int) (h : zH) (r : Int × zH) (hf : f_Mo_type_71 c9 a0 a1 a3 a4 h = some r) : zK m_Mo_type 71 [(0, (2, ((a0 : Nat) : Int))), (1, (1, a1)), (3, (0, a3)), (4, (0, a4))] [] h (some (0, r.1), r.2) := by
  unfold f_Mo_type_71 at hf
  refine k_iinc (pc := 71) (L' := [(4, (0, zw (a4 + (-1)))), (0, (2, ((a0 : Nat) : Int))), (1, (1, a1)), (3, (0, a3))]) z_m3 d_Mo_type_71 (Nat.le_of_ble_eq_true rfl) rfl ?_
  refine k_goto (pc := 74) (tgt := 9) d_Mo_type_74 rfl ?_
  refine k_sub [1, 2, 3, 0] rfl ?_
  exact k9 a0 a1 a3 (zw (a4 + (-1))) h _ hf
theorem b_Mo_type_55 (c9 : Nat → Int → Int → Int → zH → Option (Int × zH)) (k9 : ∀ (x0 : Nat) (x1 : Int) (x3 : Int) (x4 : Int) (g : zH) (r : Int × zH), c9 x0 x1 x3 x4 g = some r → zK m_Mo_type 9 [(0, (2, ((x0 : Nat) : Int))), (1, (1, x1)), (3, (0, x3)), (4, (0, x4))] [] g (some (0, r.1), r.2)) (a0 : Nat) (a1 : Int) (a3 : Int) (a4 : Int) (a5 : Int) (h : zH) (r : Int × zH) (hf : f_Mo_type_55 c9 a0 a1 a3 a4 a5 h = some r) : zK m_Mo_type 55 [(0, (2, ((a0 : Nat) : Int))), (1, (1, a1)), (3, (0, a3)), (4, (0, a4)), (5, (0, a5))] [] h (some (0, r.1), r.2) := by
  unfold f_Mo_type_55 at hf
  refine k_iload (pc := 55) z_m4 d_Mo_type_55 ?_
  rcases z_it hf with ⟨w3, hf⟩ | ⟨w3, hf⟩
  · refine k_if_eq_t (pc := 57) (tgt := 71) w3 d_Mo_type_57 rfl ?_
    refine k_sub [0, 1, 2, 3] rfl ?_
    exact b_Mo_type_71 c9 k9 a0 a1 a3 a4 h _ hf
  · refine k_if_eq_f (pc := 57) (tgt := 71) w3 d_Mo_type_57 rfl ?_
    refine k_aload_n (pc := 60) rfl z_m0 d_Mo_type_60 ?_
    obtain ⟨v1, e_v1, hf⟩ := z_bd hf
    refine k_getR (pc := 61) d_Mo_type_61 fd_Mo_7 rfl e_v1 ?_
    refine k_iload_n (pc := 64) rfl z_m2 d_Mo_type_64 ?_
    refine k_iload (pc := 65) z_m4 d_Mo_type_65 ?_
    obtain ⟨h2, e_h2, hf⟩ := z_bd hf
    refine k_iast (pc := 67) d_Mo_type_67 e_h2 ?_
    refine k_iinc (pc := 68) (L' := [(3, (0, zw (a3 + 1))), (0, (2, ((a0 : Nat) : Int))), (1, (1, a1)), (4, (0, a4)), (5, (0, a5))]) z_m2 d_Mo_type_68 (Nat.le_of_ble_eq_true rfl) rfl ?_
    refine k_sub [1, 2, 0, 3] rfl ?_
    exact b_Mo_type_71 c9 k9 a0 a1 (zw (a3 + 1)) a4 h2 _ hf
theorem b_Mo_type_9 : ∀ (n : Nat) (a0 : Nat) (a1 : Int) (a3 : Int) (a4 : Int) (h : zH) (r : Int × zH), f_Mo_type_9 n a0 a1 a3 a4 h = some r → zK m_Mo_type 9 [(0, (2, ((a0 : Nat) : Int))), (1, (1, a1)), (3, (0, a3)), (4, (0, a4))] [] h (some (0, r.1), r.2) := by
  intro n
  induction n with
  | zero =>
    intro a0 a1 a3 a4 h r hf
    cases hf
  | succ n ih =>
    intro a0 a1 a3 a4 h r hf
    unfold f_Mo_type_9 at hf
    refine k_iload (pc := 9) z_m3 d_Mo_type_9 ?_
    rcases z_it hf with ⟨w9, hf⟩ | ⟨w9, hf⟩
    · refine k_if_lt_t (pc := 11) (tgt := 77) w9 d_Mo_type_11 rfl ?_
      refine k_aload_n (pc := 77) rfl z_m0 d_Mo_type_77 ?_
      refine k_iload_n (pc := 78) rfl z_m2 d_Mo_type_78 ?_
      obtain ⟨h4, e_h4, hf⟩ := z_bd hf
      refine k_putI (pc := 79) d_Mo_type_79 fd_Mo_129 (fun q => by cases q) rfl e_h4 ?_
      refine k_iconst (pc := 82) (zi_lit rfl) d_Mo_type_82 ?_
      cases hf
      exact k_zret (pc := 83) d_Mo_type_83 rfl (Or.inr rfl)
    · refine k_if_lt_f (pc := 11) (tgt := 77) w9 d_Mo_type_11 rfl ?_
      refine k_lload_n (pc := 14) rfl z_m1 d_Mo_type_14 ?_
      refine k_bipush (pc := 15) (zi_lit rfl) (by decide) d_Mo_type_15 ?_
      refine k_iload (pc := 17) z_m3 d_Mo_type_17 ?_
      refine k_imul (pc := 19) d_Mo_type_19 ?_
      refine k_lshr (pc := 20) d_Mo_type_20 ?_
      refine k_l2i (pc := 21) d_Mo_type_21 ?_
      refine k_sipush (pc := 22) (zi_lit rfl) (by decide) d_Mo_type_22 ?_
      refine k_iand (pc := 25) d_Mo_type_25 ?_
      refine k_istore (pc := 26) (L' := [(5, (0, z_and (zw (z_lshr a1 (zw (8 * a4)))) 255)), (0, (2, ((a0 : Nat) : Int))), (1, (1, a1)), (3, (0, a3)), (4, (0, a4))]) d_Mo_type_26 (Nat.le_of_ble_eq_true rfl) rfl ?_
      refine k_iload (pc := 28) z_m0 d_Mo_type_28 ?_
      rcases z_it hf with ⟨w8, hf⟩ | ⟨w8, hf⟩
      · refine k_if_eq_t (pc := 30) (tgt := 55) w8 d_Mo_type_30 rfl ?_
        refine k_sub [1, 2, 3, 4, 0] rfl ?_
        exact b_Mo_type_55 (f_Mo_type_9 n) ih a0 a1 a3 a4 (z_and (zw (z_lshr a1 (zw (8 * a4)))) 255) h _ hf
      · refine k_if_eq_f (pc := 30) (tgt := 55) w8 d_Mo_type_30 rfl ?_
        refine k_iload (pc := 33) z_m0 d_Mo_type_33 ?_
        refine k_bipush (pc := 35) (zi_lit rfl) (by decide) d_Mo_type_35 ?_
        rcases z_it hf with ⟨w7, hf⟩ | ⟨w7, hf⟩
        · refine k_ic_lt_t (pc := 37) (tgt := 53) w7 d_Mo_type_37 rfl ?_
          refine k_iconst (pc := 53) (zi_lit rfl) d_Mo_type_53 ?_
          cases hf
          exact k_zret (pc := 54) d_Mo_type_54 rfl (Or.inl rfl)
        · refine k_ic_lt_f (pc := 37) (tgt := 53) w7 d_Mo_type_37 rfl ?_
          refine k_iload (pc := 40) z_m0 d_Mo_type_40 ?_
          refine k_bipush (pc := 42) (zi_lit rfl) (by decide) d_Mo_type_42 ?_
          rcases z_it hf with ⟨w6, hf⟩ | ⟨w6, hf⟩
          · refine k_ic_gt_t (pc := 44) (tgt := 53) w6 d_Mo_type_44 rfl ?_
            refine k_iconst (pc := 53) (zi_lit rfl) d_Mo_type_53 ?_
            cases hf
            exact k_zret (pc := 54) d_Mo_type_54 rfl (Or.inl rfl)
          · refine k_ic_gt_f (pc := 44) (tgt := 53) w6 d_Mo_type_44 rfl ?_
            refine k_iload_n (pc := 47) rfl z_m3 d_Mo_type_47 ?_
            refine k_bipush (pc := 48) (zi_lit rfl) (by decide) d_Mo_type_48 ?_
            rcases z_it hf with ⟨w5, hf⟩ | ⟨w5, hf⟩
            · refine k_ic_ne_f (pc := 50) (tgt := 55) w5 d_Mo_type_50 rfl ?_
              refine k_iconst (pc := 53) (zi_lit rfl) d_Mo_type_53 ?_
              cases hf
              exact k_zret (pc := 54) d_Mo_type_54 rfl (Or.inl rfl)
            · refine k_ic_ne_t (pc := 50) (tgt := 55) w5 d_Mo_type_50 rfl ?_
              refine k_sub [1, 2, 3, 4, 0] rfl ?_
              exact b_Mo_type_55 (f_Mo_type_9 n) ih a0 a1 a3 a4 (z_and (zw (z_lshr a1 (zw (8 * a4)))) 255) h _ hf
theorem b_Mo_type_0 (a0 : Nat) (a1 : Int) (h : zH) (r : Int × zH) (hf : f_Mo_type a0 a1 h = some r) : zK m_Mo_type 0 [(0, (2, ((a0 : Nat) : Int))), (1, (1, a1))] [] h (some (0, r.1), r.2) := by
  unfold f_Mo_type at hf
  refine k_aload_n (pc := 0) rfl z_m0 d_Mo_type_0 ?_
  obtain ⟨v10, e_v10, hf⟩ := z_bd hf
  refine k_getI (pc := 1) d_Mo_type_1 fd_Mo_129 rfl e_v10 ?_
  refine k_istore_n (pc := 4) (L' := [(3, (0, v10)), (0, (2, ((a0 : Nat) : Int))), (1, (1, a1))]) rfl d_Mo_type_4 (Nat.le_of_ble_eq_true rfl) rfl ?_
  refine k_bipush (pc := 5) (zi_lit rfl) (by decide) d_Mo_type_5 ?_
  refine k_istore (pc := 7) (L' := [(4, (0, 7)), (3, (0, v10)), (0, (2, ((a0 : Nat) : Int))), (1, (1, a1))]) d_Mo_type_7 (Nat.le_of_ble_eq_true rfl) rfl ?_
  refine k_sub [2, 3, 1, 0] rfl ?_
  exact b_Mo_type_9 100000 a0 a1 v10 7 h _ hf
theorem t_Mo_type {a0 : Nat} {a1 : Int} {h : zH} {r : Int × zH} (hf : f_Mo_type a0 a1 h = some r) : zMt m_Mo_type [(2, ((a0 : Nat) : Int)), (1, a1)] h (some (0, r.1), r.2) := zMt.of (by decide) (Nat.le_of_ble_eq_true rfl) (b_Mo_type_0 a0 a1 h r hf)
theorem b_Mo_wipe_0 (a0 : Nat) (h : zH) (r : zH) (hf : f_Mo_wipe a0 h = some r) : zK m_Mo_wipe 0 [(0, (2, ((a0 : Nat) : Int)))] [] h (none, r) := by
  unfold f_Mo_wipe at hf
  refine k_aload_n (pc := 0) rfl z_m0 d_Mo_wipe_0 ?_
  refine k_iconst (pc := 1) (zi_lit rfl) d_Mo_wipe_1 ?_
  obtain ⟨h1, e_h1, hf⟩ := z_bd hf
  refine k_putI (pc := 2) d_Mo_wipe_2 fd_Mo_129 (fun q => by cases q) rfl e_h1 ?_
  cases hf
  exact k_ret (pc := 5) d_Mo_wipe_5 rfl
theorem t_Mo_wipe {a0 : Nat} {h : zH} {r : zH} (hf : f_Mo_wipe a0 h = some r) : zMt m_Mo_wipe [(2, ((a0 : Nat) : Int))] h (none, r) := zMt.of (by decide) (Nat.le_of_ble_eq_true rfl) (b_Mo_wipe_0 a0 h r hf)
theorem b_Mo_quantifier_18 (h : zH) (r : Int × zH) (hf : f_Mo_quantifier_18 h = some r) : zK m_Mo_quantifier 18 [] [] h (some (0, r.1), r.2) := by
  unfold f_Mo_quantifier_18 at hf
  refine k_iconst (pc := 18) (zi_lit rfl) d_Mo_quantifier_18 ?_
  refine k_goto (pc := 19) (tgt := 23) d_Mo_quantifier_19 rfl ?_
  cases hf
  exact k_zret (pc := 23) d_Mo_quantifier_23 rfl (Or.inr rfl)
theorem b_Mo_quantifier_0 (a0 : Int) (h : zH) (r : Int × zH) (hf : f_Mo_quantifier a0 h = some r) : zK m_Mo_quantifier 0 [(0, (0, a0))] [] h (some (0, r.1), r.2) := by
  unfold f_Mo_quantifier at hf
  refine k_iload_n (pc := 0) rfl z_m0 d_Mo_quantifier_0 ?_
  refine k_bipush (pc := 1) (zi_lit rfl) (by decide) d_Mo_quantifier_1 ?_
  rcases z_it hf with ⟨w3, hf⟩ | ⟨w3, hf⟩
  · refine k_ic_eq_t (pc := 3) (tgt := 18) w3 d_Mo_quantifier_3 rfl ?_
    refine k_sub [] rfl ?_
    exact b_Mo_quantifier_18 h _ hf
  · refine k_ic_eq_f (pc := 3) (tgt := 18) w3 d_Mo_quantifier_3 rfl ?_
    refine k_iload_n (pc := 6) rfl z_m0 d_Mo_quantifier_6 ?_
    refine k_bipush (pc := 7) (zi_lit rfl) (by decide) d_Mo_quantifier_7 ?_
    rcases z_it hf with ⟨w2, hf⟩ | ⟨w2, hf⟩
    · refine k_ic_eq_t (pc := 9) (tgt := 18) w2 d_Mo_quantifier_9 rfl ?_
      refine k_sub [] rfl ?_
      exact b_Mo_quantifier_18 h _ hf
    · refine k_ic_eq_f (pc := 9) (tgt := 18) w2 d_Mo_quantifier_9 rfl ?_
      refine k_iload_n (pc := 12) rfl z_m0 d_Mo_quantifier_12 ?_
      refine k_bipush (pc := 13) (zi_lit rfl) (by decide) d_Mo_quantifier_13 ?_
      rcases z_it hf with ⟨w1, hf⟩ | ⟨w1, hf⟩
      · refine k_ic_ne_f (pc := 15) (tgt := 22) w1 d_Mo_quantifier_15 rfl ?_
        refine k_sub [] rfl ?_
        exact b_Mo_quantifier_18 h _ hf
      · refine k_ic_ne_t (pc := 15) (tgt := 22) w1 d_Mo_quantifier_15 rfl ?_
        refine k_iconst (pc := 22) (zi_lit rfl) d_Mo_quantifier_22 ?_
        cases hf
        exact k_zret (pc := 23) d_Mo_quantifier_23 rfl (Or.inl rfl)
theorem t_Mo_quantifier {a0 : Int} {h : zH} {r : Int × zH} (hf : f_Mo_quantifier a0 h = some r) : zMt m_Mo_quantifier [(0, a0)] h (some (0, r.1), r.2) := zMt.of (by decide) (Nat.le_of_ble_eq_true rfl) (b_Mo_quantifier_0 a0 h r hf)
theorem b_Mo_at_0 (a0 : Nat) (a1 : Int) (a2 : Int) (h : zH) (r : Int × zH) (hf : f_Mo_at a0 a1 a2 h = some r) : zK m_Mo_at 0 [(0, (2, ((a0 : Nat) : Int))), (1, (0, a1)), (2, (0, a2))] [] h (some (0, r.1), r.2) := by
  unfold f_Mo_at at hf
  refine k_iload_n (pc := 0) rfl z_m2 d_Mo_at_0 ?_
  refine k_aload_n (pc := 1) rfl z_m0 d_Mo_at_1 ?_
  obtain ⟨v1, e_v1, hf⟩ := z_bd hf
  refine k_getR (pc := 2) d_Mo_at_2 fd_Mo_26 rfl e_v1 ?_
  refine k_iload_n (pc := 5) rfl z_m1 d_Mo_at_5 ?_
  obtain ⟨v2, e_v2, hf⟩ := z_bd hf
  refine k_iald (pc := 6) d_Mo_at_6 e_v2 ?_
  rcases z_it hf with ⟨w5, hf⟩ | ⟨w5, hf⟩
  · refine k_ic_ge_t (pc := 7) (tgt := 24) w5 d_Mo_at_7 rfl ?_
    refine k_iconst (pc := 24) (zi_lit rfl) d_Mo_at_24 ?_
    cases hf
    exact k_iret (pc := 25) d_Mo_at_25 rfl
  · refine k_ic_ge_f (pc := 7) (tgt := 24) w5 d_Mo_at_7 rfl ?_
    refine k_aload_n (pc := 10) rfl z_m0 d_Mo_at_10 ?_
    obtain ⟨v3, e_v3, hf⟩ := z_bd hf
    refine k_getR (pc := 11) d_Mo_at_11 fd_Mo_29 rfl e_v3 ?_
    refine k_bipush (pc := 14) (zi_lit rfl) (by decide) d_Mo_at_14 ?_
    refine k_iload_n (pc := 16) rfl z_m1 d_Mo_at_16 ?_
    refine k_imul (pc := 17) d_Mo_at_17 ?_
    refine k_iload_n (pc := 18) rfl z_m2 d_Mo_at_18 ?_
    refine k_iadd (pc := 19) d_Mo_at_19 ?_
    obtain ⟨v4, e_v4, hf⟩ := z_bd hf
    refine k_iald (pc := 20) d_Mo_at_20 e_v4 ?_
    refine k_goto (pc := 21) (tgt := 25) d_Mo_at_21 rfl ?_
    cases hf
    exact k_iret (pc := 25) d_Mo_at_25 rfl
theorem t_Mo_at {a0 : Nat} {a1 : Int} {a2 : Int} {h : zH} {r : Int × zH} (hf : f_Mo_at a0 a1 a2 h = some r) : zMt m_Mo_at [(2, ((a0 : Nat) : Int)), (0, a1), (0, a2)] h (some (0, r.1), r.2) := zMt.of (by decide) (Nat.le_of_ble_eq_true rfl) (b_Mo_at_0 a0 a1 a2 h r hf)
theorem b_Mo_items_132 (a0 : Nat) (a1 : Int) (a3 : Int) (a4 : Int) (h : zH) (r : Int × zH) (hf : f_Mo_items_132 a0 a1 a3 a4 h = some r) : zK m_Mo_items 132 [(0, (2, ((a0 : Nat) : Int))), (1, (0, a1)), (3, (0, a3)), (4, (0, a4))] [] h (some (0, r.1), r.2) := by
  unfold f_Mo_items_132 at hf
  refine k_iload (pc := 132) z_m3 d_Mo_items_132 ?_
  rcases z_it hf with ⟨w4, hf⟩ | ⟨w4, hf⟩
  · refine k_if_le_t (pc := 134) (tgt := 153) w4 d_Mo_items_134 rfl ?_
    refine k_iconst (pc := 153) (zi_lit rfl) d_Mo_items_153 ?_
    cases hf
    exact k_iret (pc := 154) d_Mo_items_154 rfl
  · refine k_if_le_f (pc := 134) (tgt := 153) w4 d_Mo_items_134 rfl ?_
    refine k_iload_n (pc := 137) rfl z_m2 d_Mo_items_137 ?_
    refine k_aload_n (pc := 138) rfl z_m0 d_Mo_items_138 ?_
    obtain ⟨v1, e_v1, hf⟩ := z_bd hf
    refine k_getR (pc := 139) d_Mo_items_139 fd_Mo_26 rfl e_v1 ?_
    refine k_iload_n (pc := 142) rfl z_m1 d_Mo_items_142 ?_
    obtain ⟨v2, e_v2, hf⟩ := z_bd hf
    refine k_iald (pc := 143) d_Mo_items_143 e_v2 ?_
    rcases z_it hf with ⟨w3, hf⟩ | ⟨w3, hf⟩
    · refine k_ic_ge_t (pc := 144) (tgt := 153) w3 d_Mo_items_144 rfl ?_
      refine k_iconst (pc := 153) (zi_lit rfl) d_Mo_items_153 ?_
      cases hf
      exact k_iret (pc := 154) d_Mo_items_154 rfl
    · refine k_ic_ge_f (pc := 144) (tgt := 153) w3 d_Mo_items_144 rfl ?_
      refine k_iload_n (pc := 147) rfl z_m2 d_Mo_items_147 ?_
      refine k_iconst (pc := 148) (zi_lit rfl) d_Mo_items_148 ?_
      refine k_iadd (pc := 149) d_Mo_items_149 ?_
      refine k_goto (pc := 150) (tgt := 154) d_Mo_items_150 rfl ?_
      cases hf
      exact k_iret (pc := 154) d_Mo_items_154 rfl
theorem b_Mo_items_125 (c22 : Nat → Int → Int → Int → zH → Option (Int × zH)) (k22 : ∀ (x0 : Nat) (x1 : Int) (x3 : Int) (x4 : Int) (g : zH) (r : Int × zH), c22 x0 x1 x3 x4 g = some r → zK m_Mo_items 22 [(0, (2, ((x0 : Nat) : Int))), (1, (0, x1)), (3, (0, x3)), (4, (0, x4))] [] g (some (0, r.1), r.2)) (a0 : Nat) (a1 : Int) (a4 : Int) (s0 : Int) (h : zH) (r : Int × zH) (hf : f_Mo_items_125 c22 a0 a1 a4 s0 h = some r) : zK m_Mo_items 125 [(0, (2, ((a0 : Nat) : Int))), (1, (0, a1)), (4, (0, a4))] [(0, s0)] h (some (0, r.1), r.2) := by
  unfold f_Mo_items_125 at hf
  refine k_istore_n (pc := 125) (L' := [(3, (0, s0)), (0, (2, ((a0 : Nat) : Int))), (1, (0, a1)), (4, (0, a4))]) rfl d_Mo_items_125 (Nat.le_of_ble_eq_true rfl) rfl ?_
  refine k_iinc (pc := 126) (L' := [(4, (0, zw (a4 + 1))), (3, (0, s0)), (0, (2, ((a0 : Nat) : Int))), (1, (0, a1))]) z_m3 d_Mo_items_126 (Nat.le_of_ble_eq_true rfl) rfl ?_
  refine k_goto (pc := 129) (tgt := 22) d_Mo_items_129 rfl ?_
  refine k_sub [2, 3, 1, 0] rfl ?_
  exact k22 a0 a1 s0 (zw (a4 + 1)) h _ hf
theorem b_Mo_items_111 (c22 : Nat → Int → Int → Int → zH → Option (Int × zH)) (k22 : ∀ (x0 : Nat) (x1 : Int) (x3 : Int) (x4 : Int) (g : zH) (r : Int × zH), c22 x0 x1 x3 x4 g = some r → zK m_Mo_items 22 [(0, (2, ((x0 : Nat) : Int))), (1, (0, x1)), (3, (0, x3)), (4, (0, x4))] [] g (some (0, r.1), r.2)) (a0 : Nat) (a1 : Int) (a3 : Int) (a4 : Int) (a5 : Int) (h : zH) (r : Int × zH) (hf : f_Mo_items_111 c22 a0 a1 a3 a4 a5 h = some r) : zK m_Mo_items 111 [(0, (2, ((a0 : Nat) : Int))), (1, (0, a1)), (3, (0, a3)), (4, (0, a4)), (5, (0, a5))] [] h (some (0, r.1), r.2) := by
  unfold f_Mo_items_111 at hf
  refine k_iload (pc := 111) z_m4 d_Mo_items_111 ?_
  rcases z_it hf with ⟨w5, hf⟩ | ⟨w5, hf⟩
  · refine k_if_eq_t (pc := 113) (tgt := 122) w5 d_Mo_items_113 rfl ?_
    refine k_iload_n (pc := 122) rfl z_m2 d_Mo_items_122 ?_
    refine k_iconst (pc := 123) (zi_lit rfl) d_Mo_items_123 ?_
    refine k_iadd (pc := 124) d_Mo_items_124 ?_
    refine k_sub [0, 1, 3] rfl ?_
    exact b_Mo_items_125 c22 k22 a0 a1 a4 (zw (a3 + 1)) h _ hf
  · refine k_if_eq_f (pc := 113) (tgt := 122) w5 d_Mo_items_113 rfl ?_
    refine k_iload_n (pc := 116) rfl z_m2 d_Mo_items_116 ?_
    refine k_iconst (pc := 117) (zi_lit rfl) d_Mo_items_117 ?_
    refine k_iadd (pc := 118) d_Mo_items_118 ?_
    refine k_goto (pc := 119) (tgt := 125) d_Mo_items_119 rfl ?_
    refine k_sub [0, 1, 3] rfl ?_
    exact b_Mo_items_125 c22 k22 a0 a1 a4 (zw (a3 + 3)) h _ hf
theorem b_Mo_items_85 (c22 : Nat → Int → Int → Int → zH → Option (Int × zH)) (k22 : ∀ (x0 : Nat) (x1 : Int) (x3 : Int) (x4 : Int) (g : zH) (r : Int × zH), c22 x0 x1 x3 x4 g = some r → zK m_Mo_items 22 [(0, (2, ((x0 : Nat) : Int))), (1, (0, x1)), (3, (0, x3)), (4, (0, x4))] [] g (some (0, r.1), r.2)) (a0 : Nat) (a1 : Int) (a3 : Int) (a4 : Int) (s0 : Int) (h : zH) (r : Int × zH) (hf : f_Mo_items_85 c22 a0 a1 a3 a4 s0 h = some r) : zK m_Mo_items 85 [(0, (2, ((a0 : Nat) : Int))), (1, (0, a1)), (3, (0, a3)), (4, (0, a4))] [(0, s0)] h (some (0, r.1), r.2) := by
  unfold f_Mo_items_85 at hf
  refine k_istore (pc := 85) (L' := [(5, (0, s0)), (0, (2, ((a0 : Nat) : Int))), (1, (0, a1)), (3, (0, a3)), (4, (0, a4))]) d_Mo_items_85 (Nat.le_of_ble_eq_true rfl) rfl ?_
  refine k_iload (pc := 87) z_m0 d_Mo_items_87 ?_
  rcases z_it hf with ⟨w11, hf⟩ | ⟨w11, hf⟩
  · refine k_if_eq_t (pc := 89) (tgt := 111) w11 d_Mo_items_89 rfl ?_
    refine k_sub [1, 2, 3, 4, 0] rfl ?_
    exact b_Mo_items_111 c22 k22 a0 a1 a3 a4 s0 h _ hf
  · refine k_if_eq_f (pc := 89) (tgt := 111) w11 d_Mo_items_89 rfl ?_
    refine k_aload_n (pc := 92) rfl z_m1 d_Mo_items_92 ?_
    refine k_iload_n (pc := 93) rfl z_m2 d_Mo_items_93 ?_
    refine k_iload_n (pc := 94) rfl z_m3 d_Mo_items_94 ?_
    obtain ⟨n6, e_n6, hf⟩ := z_bd hf
    obtain ⟨q7, e_q7, hf⟩ := z_bd hf
    refine k_callVi (pc := 95) (as := [(0, a1), (0, a3)]) (rest := []) d_Mo_items_95 cw_Mo_items_132 rfl (Nat.le_of_ble_eq_true rfl) (z_ck_of e_n6) (t_Mo_at e_q7) ?_
    refine k_aload_n (pc := 98) rfl z_m1 d_Mo_items_98 ?_
    refine k_iload_n (pc := 99) rfl z_m2 d_Mo_items_99 ?_
    refine k_iload_n (pc := 100) rfl z_m3 d_Mo_items_100 ?_
    refine k_iconst (pc := 101) (zi_lit rfl) d_Mo_items_101 ?_
    refine k_iadd (pc := 102) d_Mo_items_102 ?_
    obtain ⟨n8, e_n8, hf⟩ := z_bd hf
    obtain ⟨q9, e_q9, hf⟩ := z_bd hf
    refine k_callVi (pc := 103) (as := [(0, a1), (0, zw (a3 + 2))]) (rest := [(0, q7.1)]) d_Mo_items_103 cw_Mo_items_132 rfl (Nat.le_of_ble_eq_true rfl) (z_ck_of e_n8) (t_Mo_at e_q9) ?_
    rcases z_it hf with ⟨w10, hf⟩ | ⟨w10, hf⟩
    · refine k_ic_le_t (pc := 106) (tgt := 111) w10 d_Mo_items_106 rfl ?_
      refine k_sub [1, 2, 3, 4, 0] rfl ?_
      exact b_Mo_items_111 c22 k22 a0 a1 a3 a4 s0 q9.2 _ hf
    · refine k_ic_le_f (pc := 106) (tgt := 111) w10 d_Mo_items_106 rfl ?_
      refine k_iconst (pc := 109) (zi_lit rfl) d_Mo_items_109 ?_
      cases hf
      exact k_iret (pc := 110) d_Mo_items_110 rfl
theorem b_Mo_items_84 (c22 : Nat → Int → Int → Int → zH → Option (Int × zH)) (k22 : ∀ (x0 : Nat) (x1 : Int) (x3 : Int) (x4 : Int) (g : zH) (r : Int × zH), c22 x0 x1 x3 x4 g = some r → zK m_Mo_items 22 [(0, (2, ((x0 : Nat) : Int))), (1, (0, x1)), (3, (0, x3)), (4, (0, x4))] [] g (some (0, r.1), r.2)) (a0 : Nat) (a1 : Int) (a3 : Int) (a4 : Int) (h : zH) (r : Int × zH) (hf : f_Mo_items_84 c22 a0 a1 a3 a4 h = some r) : zK m_Mo_items 84 [(0, (2, ((a0 : Nat) : Int))), (1, (0, a1)), (3, (0, a3)), (4, (0, a4))] [] h (some (0, r.1), r.2) := by
  unfold f_Mo_items_84 at hf
  refine k_iconst (pc := 84) (zi_lit rfl) d_Mo_items_84 ?_
  exact b_Mo_items_85 c22 k22 a0 a1 a3 a4 0 h _ hf
theorem b_Mo_items_22 : ∀ (n : Nat) (a0 : Nat) (a1 : Int) (a3 : Int) (a4 : Int) (h : zH) (r : Int × zH), f_Mo_items_22 n a0 a1 a3 a4 h = some r → zK m_Mo_items 22 [(0, (2, ((a0 : Nat) : Int))), (1, (0, a1)), (3, (0, a3)), (4, (0, a4))] [] h (some (0, r.1), r.2) := by
  intro n
  induction n with
  | zero =>
    intro a0 a1 a3 a4 h r hf
    cases hf
  | succ n ih =>
    intro a0 a1 a3 a4 h r hf
    unfold f_Mo_items_22 at hf
    refine k_iload_n (pc := 22) rfl z_m2 d_Mo_items_22 ?_
    refine k_aload_n (pc := 23) rfl z_m0 d_Mo_items_23 ?_
    obtain ⟨v12, e_v12, hf⟩ := z_bd hf
    refine k_getR (pc := 24) d_Mo_items_24 fd_Mo_26 rfl e_v12 ?_
    refine k_iload_n (pc := 27) rfl z_m1 d_Mo_items_27 ?_
    obtain ⟨v13, e_v13, hf⟩ := z_bd hf
    refine k_iald (pc := 28) d_Mo_items_28 e_v13 ?_
    rcases z_it hf with ⟨w26, hf⟩ | ⟨w26, hf⟩
    · refine k_ic_ge_t (pc := 29) (tgt := 132) w26 d_Mo_items_29 rfl ?_
      exact b_Mo_items_132 a0 a1 a3 a4 h _ hf
    · refine k_ic_ge_f (pc := 29) (tgt := 132) w26 d_Mo_items_29 rfl ?_
      refine k_aload_n (pc := 32) rfl z_m0 d_Mo_items_32 ?_
      refine k_iload_n (pc := 33) rfl z_m1 d_Mo_items_33 ?_
      refine k_iload_n (pc := 34) rfl z_m2 d_Mo_items_34 ?_
      obtain ⟨n14, e_n14, hf⟩ := z_bd hf
      obtain ⟨q15, e_q15, hf⟩ := z_bd hf
      refine k_callVi (pc := 35) (as := [(0, a1), (0, a3)]) (rest := []) d_Mo_items_35 cw_Mo_items_132 rfl (Nat.le_of_ble_eq_true rfl) (z_ck_of e_n14) (t_Mo_at e_q15) ?_
      refine k_bipush (pc := 38) (zi_lit rfl) (by decide) d_Mo_items_38 ?_
      rcases z_it hf with ⟨w25, hf⟩ | ⟨w25, hf⟩
      · refine k_ic_eq_t (pc := 40) (tgt := 132) w25 d_Mo_items_40 rfl ?_
        exact b_Mo_items_132 a0 a1 a3 a4 q15.2 _ hf
      · refine k_ic_eq_f (pc := 40) (tgt := 132) w25 d_Mo_items_40 rfl ?_
        refine k_aload_n (pc := 43) rfl z_m0 d_Mo_items_43 ?_
        refine k_iload_n (pc := 44) rfl z_m1 d_Mo_items_44 ?_
        refine k_iload_n (pc := 45) rfl z_m2 d_Mo_items_45 ?_
        refine k_iconst (pc := 46) (zi_lit rfl) d_Mo_items_46 ?_
        refine k_iadd (pc := 47) d_Mo_items_47 ?_
        obtain ⟨n16, e_n16, hf⟩ := z_bd hf
        obtain ⟨q17, e_q17, hf⟩ := z_bd hf
        refine k_callVi (pc := 48) (as := [(0, a1), (0, zw (a3 + 1))]) (rest := []) d_Mo_items_48 cw_Mo_items_132 rfl (Nat.le_of_ble_eq_true rfl) (z_ck_of e_n16) (t_Mo_at e_q17) ?_
        refine k_bipush (pc := 51) (zi_lit rfl) (by decide) d_Mo_items_51 ?_
        rcases z_it hf with ⟨w24, hf⟩ | ⟨w24, hf⟩
        · refine k_ic_ne_f (pc := 53) (tgt := 84) w24 d_Mo_items_53 rfl ?_
          refine k_aload_n (pc := 56) rfl z_m0 d_Mo_items_56 ?_
          refine k_iload_n (pc := 57) rfl z_m1 d_Mo_items_57 ?_
          refine k_iload_n (pc := 58) rfl z_m2 d_Mo_items_58 ?_
          refine k_iconst (pc := 59) (zi_lit rfl) d_Mo_items_59 ?_
          refine k_iadd (pc := 60) d_Mo_items_60 ?_
          obtain ⟨n18, e_n18, hf⟩ := z_bd hf
          obtain ⟨q19, e_q19, hf⟩ := z_bd hf
          refine k_callVi (pc := 61) (as := [(0, a1), (0, zw (a3 + 2))]) (rest := []) d_Mo_items_61 cw_Mo_items_132 rfl (Nat.le_of_ble_eq_true rfl) (z_ck_of e_n18) (t_Mo_at e_q19) ?_
          rcases z_it hf with ⟨w23, hf⟩ | ⟨w23, hf⟩
          · refine k_if_eq_t (pc := 64) (tgt := 84) w23 d_Mo_items_64 rfl ?_
            exact b_Mo_items_84 (f_Mo_items_22 n) ih a0 a1 a3 a4 q19.2 _ hf
          · refine k_if_eq_f (pc := 64) (tgt := 84) w23 d_Mo_items_64 rfl ?_
            refine k_aload_n (pc := 67) rfl z_m0 d_Mo_items_67 ?_
            refine k_iload_n (pc := 68) rfl z_m1 d_Mo_items_68 ?_
            refine k_iload_n (pc := 69) rfl z_m2 d_Mo_items_69 ?_
            refine k_iconst (pc := 70) (zi_lit rfl) d_Mo_items_70 ?_
            refine k_iadd (pc := 71) d_Mo_items_71 ?_
            obtain ⟨n20, e_n20, hf⟩ := z_bd hf
            obtain ⟨q21, e_q21, hf⟩ := z_bd hf
            refine k_callVi (pc := 72) (as := [(0, a1), (0, zw (a3 + 2))]) (rest := []) d_Mo_items_72 cw_Mo_items_132 rfl (Nat.le_of_ble_eq_true rfl) (z_ck_of e_n20) (t_Mo_at e_q21) ?_
            refine k_bipush (pc := 75) (zi_lit rfl) (by decide) d_Mo_items_75 ?_
            rcases z_it hf with ⟨w22, hf⟩ | ⟨w22, hf⟩
            · refine k_ic_eq_t (pc := 77) (tgt := 84) w22 d_Mo_items_77 rfl ?_
              exact b_Mo_items_84 (f_Mo_items_22 n) ih a0 a1 a3 a4 q21.2 _ hf
            · refine k_ic_eq_f (pc := 77) (tgt := 84) w22 d_Mo_items_77 rfl ?_
              refine k_iconst (pc := 80) (zi_lit rfl) d_Mo_items_80 ?_
              refine k_goto (pc := 81) (tgt := 85) d_Mo_items_81 rfl ?_
              exact b_Mo_items_85 (f_Mo_items_22 n) ih a0 a1 a3 a4 1 q21.2 _ hf
        · refine k_ic_ne_t (pc := 53) (tgt := 84) w24 d_Mo_items_53 rfl ?_
          exact b_Mo_items_84 (f_Mo_items_22 n) ih a0 a1 a3 a4 q17.2 _ hf
theorem b_Mo_items_18 (a0 : Nat) (a1 : Int) (s0 : Int) (h : zH) (r : Int × zH) (hf : f_Mo_items_18 a0 a1 s0 h = some r) : zK m_Mo_items 18 [(0, (2, ((a0 : Nat) : Int))), (1, (0, a1))] [(0, s0)] h (some (0, r.1), r.2) := by
  unfold f_Mo_items_18 at hf
  refine k_istore_n (pc := 18) (L' := [(3, (0, s0)), (0, (2, ((a0 : Nat) : Int))), (1, (0, a1))]) rfl d_Mo_items_18 (Nat.le_of_ble_eq_true rfl) rfl ?_
  refine k_iconst (pc := 19) (zi_lit rfl) d_Mo_items_19 ?_
  refine k_istore (pc := 20) (L' := [(4, (0, 0)), (3, (0, s0)), (0, (2, ((a0 : Nat) : Int))), (1, (0, a1))]) d_Mo_items_20 (Nat.le_of_ble_eq_true rfl) rfl ?_
  refine k_sub [2, 3, 1, 0] rfl ?_
  exact b_Mo_items_22 100000 a0 a1 s0 0 h _ hf
theorem b_Mo_items_0 (a0 : Nat) (a1 : Int) (a2 : Int) (h : zH) (r : Int × zH) (hf : f_Mo_items a0 a1 a2 h = some r) : zK m_Mo_items 0 [(0, (2, ((a0 : Nat) : Int))), (1, (0, a1)), (2, (0, a2))] [] h (some (0, r.1), r.2) := by
  unfold f_Mo_items at hf
  refine k_aload_n (pc := 0) rfl z_m0 d_Mo_items_0 ?_
  refine k_iload_n (pc := 1) rfl z_m1 d_Mo_items_1 ?_
  refine k_iload_n (pc := 2) rfl z_m2 d_Mo_items_2 ?_
  obtain ⟨n27, e_n27, hf⟩ := z_bd hf
  obtain ⟨q28, e_q28, hf⟩ := z_bd hf
  refine k_callVi (pc := 3) (as := [(0, a1), (0, a2)]) (rest := []) d_Mo_items_3 cw_Mo_items_132 rfl (Nat.le_of_ble_eq_true rfl) (z_ck_of e_n27) (t_Mo_at e_q28) ?_
  refine k_bipush (pc := 6) (zi_lit rfl) (by decide) d_Mo_items_6 ?_
  rcases z_it hf with ⟨w29, hf⟩ | ⟨w29, hf⟩
  · refine k_ic_ne_f (pc := 8) (tgt := 17) w29 d_Mo_items_8 rfl ?_
    refine k_iload_n (pc := 11) rfl z_m2 d_Mo_items_11 ?_
    refine k_iconst (pc := 12) (zi_lit rfl) d_Mo_items_12 ?_
    refine k_iadd (pc := 13) d_Mo_items_13 ?_
    refine k_goto (pc := 14) (tgt := 18) d_Mo_items_14 rfl ?_
    refine k_sub [0, 1] rfl ?_
    exact b_Mo_items_18 a0 a1 (zw (a2 + 1)) q28.2 _ hf
  · refine k_ic_ne_t (pc := 8) (tgt := 17) w29 d_Mo_items_8 rfl ?_
    refine k_iload_n (pc := 17) rfl z_m2 d_Mo_items_17 ?_
    refine k_sub [0, 1] rfl ?_
    exact b_Mo_items_18 a0 a1 a2 q28.2 _ hf
theorem t_Mo_items {a0 : Nat} {a1 : Int} {a2 : Int} {h : zH} {r : Int × zH} (hf : f_Mo_items a0 a1 a2 h = some r) : zMt m_Mo_items [(2, ((a0 : Nat) : Int)), (0, a1), (0, a2)] h (some (0, r.1), r.2) := zMt.of (by decide) (Nat.le_of_ble_eq_true rfl) (b_Mo_items_0 a0 a1 a2 h r hf)
theorem b_Mo_simple_90 (h : zH) (r : Int × zH) (hf : f_Mo_simple_90 h = some r) : zK m_Mo_simple 90 [] [] h (some (0, r.1), r.2) := by
  unfold f_Mo_simple_90 at hf
  refine k_iconst (pc := 90) (zi_lit rfl) d_Mo_simple_90 ?_
  refine k_goto (pc := 91) (tgt := 97) d_Mo_simple_91 rfl ?_
  cases hf
  exact k_iret (pc := 97) d_Mo_simple_97 rfl
theorem b_Mo_simple_60 (a2 : Int) (a3 : Int) (a5 : Int) (s0 : Int) (h : zH) (r : Int × zH) (hf : f_Mo_simple_60 a2 a3 a5 s0 h = some r) : zK m_Mo_simple 60 [(2, (0, a2)), (3, (0, a3)), (5, (0, a5))] [(0, s0)] h (some (0, r.1), r.2) := by
  unfold f_Mo_simple_60 at hf
  refine k_istore (pc := 60) (L' := [(6, (0, s0)), (2, (0, a2)), (3, (0, a3)), (5, (0, a5))]) d_Mo_simple_60 (Nat.le_of_ble_eq_true rfl) rfl ?_
  refine k_iload (pc := 62) z_m3 d_Mo_simple_62 ?_
  rcases z_it hf with ⟨w5, hf⟩ | ⟨w5, hf⟩
  · refine k_if_eq_t (pc := 64) (tgt := 90) w5 d_Mo_simple_64 rfl ?_
    refine k_sub [] rfl ?_
    exact b_Mo_simple_90 h _ hf
  · refine k_if_eq_f (pc := 64) (tgt := 90) w5 d_Mo_simple_64 rfl ?_
    refine k_iload (pc := 67) z_m0 d_Mo_simple_67 ?_
    rcases z_it hf with ⟨w4, hf⟩ | ⟨w4, hf⟩
    · refine k_if_eq_t (pc := 69) (tgt := 94) w4 d_Mo_simple_69 rfl ?_
      refine k_iload_n (pc := 94) rfl z_m1 d_Mo_simple_94 ?_
      refine k_iconst (pc := 95) (zi_lit rfl) d_Mo_simple_95 ?_
      refine k_iadd (pc := 96) d_Mo_simple_96 ?_
      cases hf
      exact k_iret (pc := 97) d_Mo_simple_97 rfl
    · refine k_if_eq_f (pc := 69) (tgt := 94) w4 d_Mo_simple_69 rfl ?_
      refine k_iload_n (pc := 72) rfl z_m2 d_Mo_simple_72 ?_
      rcases z_it hf with ⟨w3, hf⟩ | ⟨w3, hf⟩
      · refine k_if_eq_t (pc := 73) (tgt := 90) w3 d_Mo_simple_73 rfl ?_
        refine k_sub [] rfl ?_
        exact b_Mo_simple_90 h _ hf
      · refine k_if_eq_f (pc := 73) (tgt := 90) w3 d_Mo_simple_73 rfl ?_
        refine k_iload (pc := 76) z_m3 d_Mo_simple_76 ?_
        refine k_bipush (pc := 78) (zi_lit rfl) (by decide) d_Mo_simple_78 ?_
        rcases z_it hf with ⟨w2, hf⟩ | ⟨w2, hf⟩
        · refine k_ic_eq_t (pc := 80) (tgt := 94) w2 d_Mo_simple_80 rfl ?_
          refine k_iload_n (pc := 94) rfl z_m1 d_Mo_simple_94 ?_
          refine k_iconst (pc := 95) (zi_lit rfl) d_Mo_simple_95 ?_
          refine k_iadd (pc := 96) d_Mo_simple_96 ?_
          cases hf
          exact k_iret (pc := 97) d_Mo_simple_97 rfl
        · refine k_ic_eq_f (pc := 80) (tgt := 94) w2 d_Mo_simple_80 rfl ?_
          refine k_iload (pc := 83) z_m3 d_Mo_simple_83 ?_
          refine k_bipush (pc := 85) (zi_lit rfl) (by decide) d_Mo_simple_85 ?_
          rcases z_it hf with ⟨w1, hf⟩ | ⟨w1, hf⟩
          · refine k_ic_eq_t (pc := 87) (tgt := 94) w1 d_Mo_simple_87 rfl ?_
            refine k_iload_n (pc := 94) rfl z_m1 d_Mo_simple_94 ?_
            refine k_iconst (pc := 95) (zi_lit rfl) d_Mo_simple_95 ?_
            refine k_iadd (pc := 96) d_Mo_simple_96 ?_
            cases hf
            exact k_iret (pc := 97) d_Mo_simple_97 rfl
          · refine k_ic_eq_f (pc := 87) (tgt := 94) w1 d_Mo_simple_87 rfl ?_
            refine k_sub [] rfl ?_
            exact b_Mo_simple_90 h _ hf
theorem b_Mo_simple_59 (a2 : Int) (a3 : Int) (a5 : Int) (h : zH) (r : Int × zH) (hf : f_Mo_simple_59 a2 a3 a5 h = some r) : zK m_Mo_simple 59 [(2, (0, a2)), (3, (0, a3)), (5, (0, a5))] [] h (some (0, r.1), r.2) := by
  unfold f_Mo_simple_59 at hf
  refine k_iconst (pc := 59) (zi_lit rfl) d_Mo_simple_59 ?_
  exact b_Mo_simple_60 a2 a3 a5 0 h _ hf
theorem b_Mo_simple_120 (h : zH) (r : Int × zH) (hf : f_Mo_simple_120 h = some r) : zK m_Mo_simple 120 [] [] h (some (0, r.1), r.2) := by
  unfold f_Mo_simple_120 at hf
  refine k_iconst (pc := 120) (zi_lit rfl) d_Mo_simple_120 ?_
  refine k_goto (pc := 121) (tgt := 127) d_Mo_simple_121 rfl ?_
  cases hf
  exact k_iret (pc := 127) d_Mo_simple_127 rfl
theorem b_Mo_simple_0 (a0 : Nat) (a1 : Int) (a2 : Int) (a3 : Int) (h : zH) (r : Int × zH) (hf : f_Mo_simple a0 a1 a2 a3 h = some r) : zK m_Mo_simple 0 [(0, (2, ((a0 : Nat) : Int))), (1, (0, a1)), (2, (0, a2)), (3, (0, a3))] [] h (some (0, r.1), r.2) := by
  unfold f_Mo_simple at hf
  refine k_aload_n (pc := 0) rfl z_m0 d_Mo_simple_0 ?_
  refine k_iload_n (pc := 1) rfl z_m1 d_Mo_simple_1 ?_
  refine k_iload_n (pc := 2) rfl z_m2 d_Mo_simple_2 ?_
  obtain ⟨n6, e_n6, hf⟩ := z_bd hf
  obtain ⟨q7, e_q7, hf⟩ := z_bd hf
  refine k_callVi (pc := 3) (as := [(0, a1), (0, a2)]) (rest := []) d_Mo_simple_3 cw_Mo_simple_132 rfl (Nat.le_of_ble_eq_true rfl) (z_ck_of e_n6) (t_Mo_at e_q7) ?_
  refine k_istore (pc := 6) (L' := [(4, (0, q7.1)), (0, (2, ((a0 : Nat) : Int))), (1, (0, a1)), (2, (0, a2)), (3, (0, a3))]) d_Mo_simple_6 (Nat.le_of_ble_eq_true rfl) rfl ?_
  refine k_iload (pc := 8) z_m0 d_Mo_simple_8 ?_
  refine k_bipush (pc := 10) (zi_lit rfl) (by decide) d_Mo_simple_10 ?_
  rcases z_it hf with ⟨w19, hf⟩ | ⟨w19, hf⟩
  · refine k_ic_ne_f (pc := 12) (tgt := 24) w19 d_Mo_simple_12 rfl ?_
    refine k_aload_n (pc := 15) rfl z_m1 d_Mo_simple_15 ?_
    refine k_iload_n (pc := 16) rfl z_m2 d_Mo_simple_16 ?_
    refine k_iload_n (pc := 17) rfl z_m3 d_Mo_simple_17 ?_
    refine k_iconst (pc := 18) (zi_lit rfl) d_Mo_simple_18 ?_
    refine k_iadd (pc := 19) d_Mo_simple_19 ?_
    obtain ⟨n17, e_n17, hf⟩ := z_bd hf
    obtain ⟨q18, e_q18, hf⟩ := z_bd hf
    refine k_callVi (pc := 20) (as := [(0, a1), (0, zw (a2 + 1))]) (rest := []) d_Mo_simple_20 cw_Mo_simple_136 rfl (Nat.le_of_ble_eq_true rfl) (z_ck_of e_n17) (t_Mo_items e_q18) ?_
    cases hf
    exact k_iret (pc := 23) d_Mo_simple_23 rfl
  · refine k_ic_ne_t (pc := 12) (tgt := 24) w19 d_Mo_simple_12 rfl ?_
    refine k_iload (pc := 24) z_m0 d_Mo_simple_24 ?_
    refine k_bipush (pc := 26) (zi_lit rfl) (by decide) d_Mo_simple_26 ?_
    rcases z_it hf with ⟨w16, hf⟩ | ⟨w16, hf⟩
    · refine k_ic_ne_f (pc := 28) (tgt := 98) w16 d_Mo_simple_28 rfl ?_
      refine k_aload_n (pc := 31) rfl z_m1 d_Mo_simple_31 ?_
      refine k_iload_n (pc := 32) rfl z_m2 d_Mo_simple_32 ?_
      refine k_iload_n (pc := 33) rfl z_m3 d_Mo_simple_33 ?_
      refine k_iconst (pc := 34) (zi_lit rfl) d_Mo_simple_34 ?_
      refine k_iadd (pc := 35) d_Mo_simple_35 ?_
      obtain ⟨n12, e_n12, hf⟩ := z_bd hf
      obtain ⟨q13, e_q13, hf⟩ := z_bd hf
      refine k_callVi (pc := 36) (as := [(0, a1), (0, zw (a2 + 1))]) (rest := []) d_Mo_simple_36 cw_Mo_simple_132 rfl (Nat.le_of_ble_eq_true rfl) (z_ck_of e_n12) (t_Mo_at e_q13) ?_
      refine k_istore (pc := 39) (L' := [(5, (0, q13.1)), (4, (0, q7.1)), (0, (2, ((a0 : Nat) : Int))), (1, (0, a1)), (2, (0, a2)), (3, (0, a3))]) d_Mo_simple_39 (Nat.le_of_ble_eq_true rfl) rfl ?_
      refine k_iload (pc := 41) z_m0 d_Mo_simple_41 ?_
      refine k_bipush (pc := 43) (zi_lit rfl) (by decide) d_Mo_simple_43 ?_
      rcases z_it hf with ⟨w15, hf⟩ | ⟨w15, hf⟩
      · refine k_ic_lt_t (pc := 45) (tgt := 59) w15 d_Mo_simple_45 rfl ?_
        refine k_sub [4, 5, 0] rfl ?_
        exact b_Mo_simple_59 a2 a3 q13.1 q13.2 _ hf
      · refine k_ic_lt_f (pc := 45) (tgt := 59) w15 d_Mo_simple_45 rfl ?_
        refine k_iload (pc := 48) z_m0 d_Mo_simple_48 ?_
        refine k_bipush (pc := 50) (zi_lit rfl) (by decide) d_Mo_simple_50 ?_
        rcases z_it hf with ⟨w14, hf⟩ | ⟨w14, hf⟩
        · refine k_ic_gt_t (pc := 52) (tgt := 59) w14 d_Mo_simple_52 rfl ?_
          refine k_sub [4, 5, 0] rfl ?_
          exact b_Mo_simple_59 a2 a3 q13.1 q13.2 _ hf
        · refine k_ic_gt_f (pc := 52) (tgt := 59) w14 d_Mo_simple_52 rfl ?_
          refine k_iconst (pc := 55) (zi_lit rfl) d_Mo_simple_55 ?_
          refine k_goto (pc := 56) (tgt := 60) d_Mo_simple_56 rfl ?_
          refine k_sub [4, 5, 0] rfl ?_
          exact b_Mo_simple_60 a2 a3 q13.1 1 q13.2 _ hf
    · refine k_ic_ne_t (pc := 28) (tgt := 98) w16 d_Mo_simple_28 rfl ?_
      refine k_iload (pc := 98) z_m0 d_Mo_simple_98 ?_
      refine k_bipush (pc := 100) (zi_lit rfl) (by decide) d_Mo_simple_100 ?_
      rcases z_it hf with ⟨w11, hf⟩ | ⟨w11, hf⟩
      · refine k_ic_eq_t (pc := 102) (tgt := 120) w11 d_Mo_simple_102 rfl ?_
        refine k_sub [] rfl ?_
        exact b_Mo_simple_120 q7.2 _ hf
      · refine k_ic_eq_f (pc := 102) (tgt := 120) w11 d_Mo_simple_102 rfl ?_
        refine k_iload (pc := 105) z_m0 d_Mo_simple_105 ?_
        refine k_bipush (pc := 107) (zi_lit rfl) (by decide) d_Mo_simple_107 ?_
        rcases z_it hf with ⟨w10, hf⟩ | ⟨w10, hf⟩
        · refine k_ic_eq_t (pc := 109) (tgt := 120) w10 d_Mo_simple_109 rfl ?_
          refine k_sub [] rfl ?_
          exact b_Mo_simple_120 q7.2 _ hf
        · refine k_ic_eq_f (pc := 109) (tgt := 120) w10 d_Mo_simple_109 rfl ?_
          refine k_iload (pc := 112) z_m0 d_Mo_simple_112 ?_
          obtain ⟨q8, e_q8, hf⟩ := z_bd hf
          refine k_callSi (pc := 114) (as := [(0, q7.1)]) (rest := []) d_Mo_simple_114 cw_Mo_simple_139 rfl (Nat.le_of_ble_eq_true rfl) (t_Mo_quantifier e_q8) ?_
          rcases z_it hf with ⟨w9, hf⟩ | ⟨w9, hf⟩
          · refine k_if_eq_t (pc := 117) (tgt := 124) w9 d_Mo_simple_117 rfl ?_
            refine k_iload_n (pc := 124) rfl z_m3 d_Mo_simple_124 ?_
            refine k_iconst (pc := 125) (zi_lit rfl) d_Mo_simple_125 ?_
            refine k_iadd (pc := 126) d_Mo_simple_126 ?_
            cases hf
            exact k_iret (pc := 127) d_Mo_simple_127 rfl
          · refine k_if_eq_f (pc := 117) (tgt := 124) w9 d_Mo_simple_117 rfl ?_
            refine k_sub [] rfl ?_
            exact b_Mo_simple_120 q8.2 _ hf
theorem t_Mo_simple {a0 : Nat} {a1 : Int} {a2 : Int} {a3 : Int} {h : zH} {r : Int × zH} (hf : f_Mo_simple a0 a1 a2 a3 h = some r) : zMt m_Mo_simple [(2, ((a0 : Nat) : Int)), (0, a1), (0, a2), (0, a3)] h (some (0, r.1), r.2) := zMt.of (by decide) (Nat.le_of_ble_eq_true rfl) (b_Mo_simple_0 a0 a1 a2 a3 h r hf)
theorem b_Mo_isRef_0 (a0 : Nat) (a1 : Int) (a2 : Int) (h : zH) (r : Int × zH) (hf : f_Mo_isRef a0 a1 a2 h = some r) : zK m_Mo_isRef 0 [(0, (2, ((a0 : Nat) : Int))), (1, (0, a1)), (2, (0, a2))] [] h (some (0, r.1), r.2) := by
  unfold f_Mo_isRef at hf
  refine k_aload_n (pc := 0) rfl z_m0 d_Mo_isRef_0 ?_
  refine k_iload_n (pc := 1) rfl z_m1 d_Mo_isRef_1 ?_
  refine k_iload_n (pc := 2) rfl z_m2 d_Mo_isRef_2 ?_
  obtain ⟨n1, e_n1, hf⟩ := z_bd hf
  obtain ⟨q2, e_q2, hf⟩ := z_bd hf
  refine k_callVi (pc := 3) (as := [(0, a1), (0, a2)]) (rest := []) d_Mo_isRef_3 cw_Mo_isRef_132 rfl (Nat.le_of_ble_eq_true rfl) (z_ck_of e_n1) (t_Mo_at e_q2) ?_
  refine k_bipush (pc := 6) (zi_lit rfl) (by decide) d_Mo_isRef_6 ?_
  rcases z_it hf with ⟨w9, hf⟩ | ⟨w9, hf⟩
  · refine k_ic_ne_f (pc := 8) (tgt := 41) w9 d_Mo_isRef_8 rfl ?_
    refine k_aload_n (pc := 11) rfl z_m0 d_Mo_isRef_11 ?_
    refine k_iload_n (pc := 12) rfl z_m1 d_Mo_isRef_12 ?_
    refine k_iload_n (pc := 13) rfl z_m2 d_Mo_isRef_13 ?_
    refine k_iconst (pc := 14) (zi_lit rfl) d_Mo_isRef_14 ?_
    refine k_iadd (pc := 15) d_Mo_isRef_15 ?_
    obtain ⟨n3, e_n3, hf⟩ := z_bd hf
    obtain ⟨q4, e_q4, hf⟩ := z_bd hf
    refine k_callVi (pc := 16) (as := [(0, a1), (0, zw (a2 + 1))]) (rest := []) d_Mo_isRef_16 cw_Mo_isRef_132 rfl (Nat.le_of_ble_eq_true rfl) (z_ck_of e_n3) (t_Mo_at e_q4) ?_
    refine k_bipush (pc := 19) (zi_lit rfl) (by decide) d_Mo_isRef_19 ?_
    rcases z_it hf with ⟨w8, hf⟩ | ⟨w8, hf⟩
    · refine k_ic_lt_t (pc := 21) (tgt := 41) w8 d_Mo_isRef_21 rfl ?_
      refine k_iconst (pc := 41) (zi_lit rfl) d_Mo_isRef_41 ?_
      cases hf
      exact k_zret (pc := 42) d_Mo_isRef_42 rfl (Or.inl rfl)
    · refine k_ic_lt_f (pc := 21) (tgt := 41) w8 d_Mo_isRef_21 rfl ?_
      refine k_aload_n (pc := 24) rfl z_m0 d_Mo_isRef_24 ?_
      refine k_iload_n (pc := 25) rfl z_m1 d_Mo_isRef_25 ?_
      refine k_iload_n (pc := 26) rfl z_m2 d_Mo_isRef_26 ?_
      refine k_iconst (pc := 27) (zi_lit rfl) d_Mo_isRef_27 ?_
      refine k_iadd (pc := 28) d_Mo_isRef_28 ?_
      obtain ⟨n5, e_n5, hf⟩ := z_bd hf
      obtain ⟨q6, e_q6, hf⟩ := z_bd hf
      refine k_callVi (pc := 29) (as := [(0, a1), (0, zw (a2 + 1))]) (rest := []) d_Mo_isRef_29 cw_Mo_isRef_132 rfl (Nat.le_of_ble_eq_true rfl) (z_ck_of e_n5) (t_Mo_at e_q6) ?_
      refine k_bipush (pc := 32) (zi_lit rfl) (by decide) d_Mo_isRef_32 ?_
      rcases z_it hf with ⟨w7, hf⟩ | ⟨w7, hf⟩
      · refine k_ic_gt_t (pc := 34) (tgt := 41) w7 d_Mo_isRef_34 rfl ?_
        refine k_iconst (pc := 41) (zi_lit rfl) d_Mo_isRef_41 ?_
        cases hf
        exact k_zret (pc := 42) d_Mo_isRef_42 rfl (Or.inl rfl)
      · refine k_ic_gt_f (pc := 34) (tgt := 41) w7 d_Mo_isRef_34 rfl ?_
        refine k_iconst (pc := 37) (zi_lit rfl) d_Mo_isRef_37 ?_
        refine k_goto (pc := 38) (tgt := 42) d_Mo_isRef_38 rfl ?_
        cases hf
        exact k_zret (pc := 42) d_Mo_isRef_42 rfl (Or.inr rfl)
  · refine k_ic_ne_t (pc := 8) (tgt := 41) w9 d_Mo_isRef_8 rfl ?_
    refine k_iconst (pc := 41) (zi_lit rfl) d_Mo_isRef_41 ?_
    cases hf
    exact k_zret (pc := 42) d_Mo_isRef_42 rfl (Or.inl rfl)
theorem t_Mo_isRef {a0 : Nat} {a1 : Int} {a2 : Int} {h : zH} {r : Int × zH} (hf : f_Mo_isRef a0 a1 a2 h = some r) : zMt m_Mo_isRef [(2, ((a0 : Nat) : Int)), (0, a1), (0, a2)] h (some (0, r.1), r.2) := zMt.of (by decide) (Nat.le_of_ble_eq_true rfl) (b_Mo_isRef_0 a0 a1 a2 h r hf)
theorem b_Mo_quantified_214 (a7 : Int) (s0 : Nat) (s1 : Int) (h : zH) (r : Int × zH) (hf : f_Mo_quantified_214 a7 s0 s1 h = some r) : zK m_Mo_quantified 214 [(7, (0, a7))] [(0, s1), (2, ((s0 : Nat) : Int))] h (some (0, r.1), r.2) := by
  unfold f_Mo_quantified_214 at hf
  refine k_iconst (pc := 214) (zi_lit rfl) d_Mo_quantified_214 ?_
  refine k_goto (pc := 215) (tgt := 219) d_Mo_quantified_215 rfl ?_
  obtain ⟨h1, e_h1, hf⟩ := z_bd hf
  refine k_zast (pc := 219) d_Mo_quantified_219 e_h1 ?_
  refine k_iload (pc := 220) z_m0 d_Mo_quantified_220 ?_
  cases hf
  exact k_iret (pc := 222) d_Mo_quantified_222 rfl
theorem b_Mo_quantified_163 (a0 : Nat) (a3 : Int) (a4 : Int) (a5 : Int) (a6 : Int) (a7 : Int) (a9 : Int) (s0 : Nat) (s1 : Int) (s2 : Int) (h : zH) (r : Int × zH) (hf : f_Mo_quantified_163 a0 a3 a4 a5 a6 a7 a9 s0 s1 s2 h = some r) : zK m_Mo_quantified 163 [(0, (2, ((a0 : Nat) : Int))), (3, (0, a3)), (4, (0, a4)), (5, (0, a5)), (6, (0, a6)), (7, (0, a7)), (9, (0, a9))] [(0, s2), (0, s1), (2, ((s0 : Nat) : Int))] h (some (0, r.1), r.2) := by
  unfold f_Mo_quantified_163 at hf
  obtain ⟨h2, e_h2, hf⟩ := z_bd hf
  refine k_iast (pc := 163) d_Mo_quantified_163 e_h2 ?_
  refine k_aload_n (pc := 164) rfl z_m0 d_Mo_quantified_164 ?_
  obtain ⟨v3, e_v3, hf⟩ := z_bd hf
  refine k_getR (pc := 165) d_Mo_quantified_165 fd_Mo_35 rfl e_v3 ?_
  refine k_iload (pc := 168) z_m6 d_Mo_quantified_168 ?_
  refine k_iload_n (pc := 170) rfl z_m1 d_Mo_quantified_170 ?_
  obtain ⟨h4, e_h4, hf⟩ := z_bd hf
  refine k_iast (pc := 171) d_Mo_quantified_171 e_h4 ?_
  refine k_aload_n (pc := 172) rfl z_m0 d_Mo_quantified_172 ?_
  obtain ⟨v5, e_v5, hf⟩ := z_bd hf
  refine k_getR (pc := 173) d_Mo_quantified_173 fd_Mo_38 rfl e_v5 ?_
  refine k_iload (pc := 176) z_m6 d_Mo_quantified_176 ?_
  refine k_iload (pc := 178) z_m5 d_Mo_quantified_178 ?_
  obtain ⟨h6, e_h6, hf⟩ := z_bd hf
  refine k_iast (pc := 180) d_Mo_quantified_180 e_h6 ?_
  refine k_aload_n (pc := 181) rfl z_m0 d_Mo_quantified_181 ?_
  obtain ⟨v7, e_v7, hf⟩ := z_bd hf
  refine k_getR (pc := 182) d_Mo_quantified_182 fd_Mo_62 rfl e_v7 ?_
  refine k_iload (pc := 185) z_m3 d_Mo_quantified_185 ?_
  refine k_aload_n (pc := 187) rfl z_m0 d_Mo_quantified_187 ?_
  obtain ⟨v8, e_v8, hf⟩ := z_bd hf
  refine k_getR (pc := 188) d_Mo_quantified_188 fd_Mo_62 rfl e_v8 ?_
  refine k_iload (pc := 191) z_m3 d_Mo_quantified_191 ?_
  obtain ⟨v9, e_v9, hf⟩ := z_bd hf
  refine k_zald (pc := 193) d_Mo_quantified_193 e_v9 ?_
  rcases z_it hf with ⟨w15, hf⟩ | ⟨w15, hf⟩
  · refine k_if_eq_t (pc := 194) (tgt := 218) w15 d_Mo_quantified_194 rfl ?_
    refine k_iconst (pc := 218) (zi_lit rfl) d_Mo_quantified_218 ?_
    obtain ⟨h10, e_h10, hf⟩ := z_bd hf
    refine k_zast (pc := 219) d_Mo_quantified_219 e_h10 ?_
    refine k_iload (pc := 220) z_m5 d_Mo_quantified_220 ?_
    cases hf
    exact k_iret (pc := 222) d_Mo_quantified_222 rfl
  · refine k_if_eq_f (pc := 194) (tgt := 218) w15 d_Mo_quantified_194 rfl ?_
    refine k_iload (pc := 197) z_m2 d_Mo_quantified_197 ?_
    rcases z_it hf with ⟨w14, hf⟩ | ⟨w14, hf⟩
    · refine k_if_ne_f (pc := 199) (tgt := 214) w14 d_Mo_quantified_199 rfl ?_
      refine k_iload (pc := 202) z_m4 d_Mo_quantified_202 ?_
      refine k_iconst (pc := 204) (zi_lit rfl) d_Mo_quantified_204 ?_
      rcases z_it hf with ⟨w13, hf⟩ | ⟨w13, hf⟩
      · refine k_ic_eq_t (pc := 205) (tgt := 214) w13 d_Mo_quantified_205 rfl ?_
        refine k_sub [5] rfl ?_
        exact b_Mo_quantified_214 a7 v7 a5 h6 _ hf
      · refine k_ic_eq_f (pc := 205) (tgt := 214) w13 d_Mo_quantified_205 rfl ?_
        refine k_iload (pc := 208) z_m4 d_Mo_quantified_208 ?_
        refine k_iconst (pc := 210) (zi_lit rfl) d_Mo_quantified_210 ?_
        rcases z_it hf with ⟨w12, hf⟩ | ⟨w12, hf⟩
        · refine k_ic_ne_f (pc := 211) (tgt := 218) w12 d_Mo_quantified_211 rfl ?_
          refine k_sub [5] rfl ?_
          exact b_Mo_quantified_214 a7 v7 a5 h6 _ hf
        · refine k_ic_ne_t (pc := 211) (tgt := 218) w12 d_Mo_quantified_211 rfl ?_
          refine k_iconst (pc := 218) (zi_lit rfl) d_Mo_quantified_218 ?_
          obtain ⟨h11, e_h11, hf⟩ := z_bd hf
          refine k_zast (pc := 219) d_Mo_quantified_219 e_h11 ?_
          refine k_iload (pc := 220) z_m5 d_Mo_quantified_220 ?_
          cases hf
          exact k_iret (pc := 222) d_Mo_quantified_222 rfl
    · refine k_if_ne_t (pc := 199) (tgt := 214) w14 d_Mo_quantified_199 rfl ?_
      refine k_sub [5] rfl ?_
      exact b_Mo_quantified_214 a7 v7 a5 h6 _ hf
theorem b_Mo_quantified_135 (a0 : Nat) (a1 : Int) (a2 : Int) (a3 : Int) (a4 : Int) (a5 : Int) (a6 : Int) (a7 : Int) (a8 : Int) (h : zH) (r : Int × zH) (hf : f_Mo_quantified_135 a0 a1 a2 a3 a4 a5 a6 a7 a8 h = some r) : zK m_Mo_quantified 135 [(0, (2, ((a0 : Nat) : Int))), (1, (0, a1)), (2, (0, a2)), (3, (0, a3)), (4, (0, a4)), (5, (0, a5)), (6, (0, a6)), (7, (0, a7)), (8, (0, a8))] [] h (some (0, r.1), r.2) := by
  unfold f_Mo_quantified_135 at hf
  refine k_bipush (pc := 135) (zi_lit rfl) (by decide) d_Mo_quantified_135 ?_
  refine k_iload_n (pc := 137) rfl z_m1 d_Mo_quantified_137 ?_
  refine k_imul (pc := 138) d_Mo_quantified_138 ?_
  refine k_iload_n (pc := 139) rfl z_m2 d_Mo_quantified_139 ?_
  refine k_iadd (pc := 140) d_Mo_quantified_140 ?_
  refine k_istore (pc := 141) (L' := [(9, (0, zw ((zw (21 * a1)) + a2))), (0, (2, ((a0 : Nat) : Int))), (1, (0, a1)), (2, (0, a2)), (3, (0, a3)), (4, (0, a4)), (5, (0, a5)), (6, (0, a6)), (7, (0, a7)), (8, (0, a8))]) d_Mo_quantified_141 (Nat.le_of_ble_eq_true rfl) rfl ?_
  refine k_aload_n (pc := 143) rfl z_m1 d_Mo_quantified_143 ?_
  obtain ⟨v16, e_v16, hf⟩ := z_bd hf
  refine k_getR (pc := 144) d_Mo_quantified_144 fd_Mo_32 rfl e_v16 ?_
  refine k_iload (pc := 147) z_m0 d_Mo_quantified_147 ?_
  refine k_iload (pc := 149) z_m9 d_Mo_quantified_149 ?_
  rcases z_it hf with ⟨w17, hf⟩ | ⟨w17, hf⟩
  · refine k_if_eq_t (pc := 151) (tgt := 161) w17 d_Mo_quantified_151 rfl ?_
    refine k_iload (pc := 161) z_m7 d_Mo_quantified_161 ?_
    refine k_sub [1, 4, 5, 6, 7, 8, 0] rfl ?_
    exact b_Mo_quantified_163 a0 a3 a4 a5 a6 a7 (zw ((zw (21 * a1)) + a2)) v16 (zw ((zw (21 * a1)) + a2)) a6 h _ hf
  · refine k_if_eq_f (pc := 151) (tgt := 161) w17 d_Mo_quantified_151 rfl ?_
    refine k_iload (pc := 154) z_m7 d_Mo_quantified_154 ?_
    refine k_iconst (pc := 156) (zi_lit rfl) d_Mo_quantified_156 ?_
    refine k_iadd (pc := 157) d_Mo_quantified_157 ?_
    refine k_goto (pc := 158) (tgt := 163) d_Mo_quantified_158 rfl ?_
    refine k_sub [1, 4, 5, 6, 7, 8, 0] rfl ?_
    exact b_Mo_quantified_163 a0 a3 a4 a5 a6 a7 (zw ((zw (21 * a1)) + a2)) v16 (zw ((zw (21 * a1)) + a2)) (zw (a6 + 4)) h _ hf
theorem b_Mo_quantified_119 (a0 : Nat) (a1 : Int) (a2 : Int) (a3 : Int) (a4 : Int) (a5 : Int) (a6 : Int) (a7 : Int) (a8 : Int) (h : zH) (r : Int × zH) (hf : f_Mo_quantified_119 a0 a1 a2 a3 a4 a5 a6 a7 a8 h = some r) : zK m_Mo_quantified 119 [(0, (2, ((a0 : Nat) : Int))), (1, (0, a1)), (2, (0, a2)), (3, (0, a3)), (4, (0, a4)), (5, (0, a5)), (6, (0, a6)), (7, (0, a7)), (8, (0, a8))] [] h (some (0, r.1), r.2) := by
  unfold f_Mo_quantified_119 at hf
  refine k_aload_n (pc := 119) rfl z_m0 d_Mo_quantified_119 ?_
  refine k_iload_n (pc := 120) rfl z_m1 d_Mo_quantified_120 ?_
  refine k_iload_n (pc := 121) rfl z_m2 d_Mo_quantified_121 ?_
  obtain ⟨n18, e_n18, hf⟩ := z_bd hf
  obtain ⟨q19, e_q19, hf⟩ := z_bd hf
  refine k_callVi (pc := 122) (as := [(0, a1), (0, a2)]) (rest := []) d_Mo_quantified_122 cw_Mo_quantified_143 rfl (Nat.le_of_ble_eq_true rfl) (z_ck_of e_n18) (t_Mo_isRef e_q19) ?_
  rcases z_it hf with ⟨w21, hf⟩ | ⟨w21, hf⟩
  · refine k_if_eq_t (pc := 125) (tgt := 135) w21 d_Mo_quantified_125 rfl ?_
    exact b_Mo_quantified_135 a0 a1 a2 a3 a4 a5 a6 a7 a8 q19.2 _ hf
  · refine k_if_eq_f (pc := 125) (tgt := 135) w21 d_Mo_quantified_125 rfl ?_
    refine k_iload (pc := 128) z_m6 d_Mo_quantified_128 ?_
    rcases z_it hf with ⟨w20, hf⟩ | ⟨w20, hf⟩
    · refine k_if_le_t (pc := 130) (tgt := 135) w20 d_Mo_quantified_130 rfl ?_
      exact b_Mo_quantified_135 a0 a1 a2 a3 a4 a5 a6 a7 a8 q19.2 _ hf
    · refine k_if_le_f (pc := 130) (tgt := 135) w20 d_Mo_quantified_130 rfl ?_
      refine k_iconst (pc := 133) (zi_lit rfl) d_Mo_quantified_133 ?_
      cases hf
      exact k_iret (pc := 134) d_Mo_quantified_134 rfl
theorem b_Mo_quantified_100 (a0 : Nat) (a1 : Int) (a2 : Int) (a3 : Int) (a4 : Int) (a5 : Int) (a6 : Int) (a8 : Int) (s0 : Int) (h : zH) (r : Int × zH) (hf : f_Mo_quantified_100 a0 a1 a2 a3 a4 a5 a6 a8 s0 h = some r) : zK m_Mo_quantified 100 [(0, (2, ((a0 : Nat) : Int))), (1, (0, a1)), (2, (0, a2)), (3, (0, a3)), (4, (0, a4)), (5, (0, a5)), (6, (0, a6)), (8, (0, a8))] [(0, s0)] h (some (0, r.1), r.2) := by
  unfold f_Mo_quantified_100 at hf
  refine k_istore (pc := 100) (L' := [(7, (0, s0)), (0, (2, ((a0 : Nat) : Int))), (1, (0, a1)), (2, (0, a2)), (3, (0, a3)), (4, (0, a4)), (5, (0, a5)), (6, (0, a6)), (8, (0, a8))]) d_Mo_quantified_100 (Nat.le_of_ble_eq_true rfl) rfl ?_
  refine k_iload (pc := 102) z_m5 d_Mo_quantified_102 ?_
  rcases z_it hf with ⟨w24, hf⟩ | ⟨w24, hf⟩
  · refine k_if_eq_t (pc := 104) (tgt := 119) w24 d_Mo_quantified_104 rfl ?_
    refine k_sub [1, 2, 3, 4, 5, 6, 7, 0, 8] rfl ?_
    exact b_Mo_quantified_119 a0 a1 a2 a3 a4 a5 a6 s0 a8 h _ hf
  · refine k_if_eq_f (pc := 104) (tgt := 119) w24 d_Mo_quantified_104 rfl ?_
    refine k_iload (pc := 107) z_m7 d_Mo_quantified_107 ?_
    refine k_iconst (pc := 109) (zi_lit rfl) d_Mo_quantified_109 ?_
    rcases z_it hf with ⟨w23, hf⟩ | ⟨w23, hf⟩
    · refine k_ic_eq_t (pc := 110) (tgt := 133) w23 d_Mo_quantified_110 rfl ?_
      refine k_iconst (pc := 133) (zi_lit rfl) d_Mo_quantified_133 ?_
      cases hf
      exact k_iret (pc := 134) d_Mo_quantified_134 rfl
    · refine k_ic_eq_f (pc := 110) (tgt := 133) w23 d_Mo_quantified_110 rfl ?_
      refine k_iload (pc := 113) z_m7 d_Mo_quantified_113 ?_
      refine k_iconst (pc := 115) (zi_lit rfl) d_Mo_quantified_115 ?_
      rcases z_it hf with ⟨w22, hf⟩ | ⟨w22, hf⟩
      · refine k_ic_eq_t (pc := 116) (tgt := 133) w22 d_Mo_quantified_116 rfl ?_
        refine k_iconst (pc := 133) (zi_lit rfl) d_Mo_quantified_133 ?_
        cases hf
        exact k_iret (pc := 134) d_Mo_quantified_134 rfl
      · refine k_ic_eq_f (pc := 116) (tgt := 133) w22 d_Mo_quantified_116 rfl ?_
        refine k_sub [1, 2, 3, 4, 5, 6, 7, 0, 8] rfl ?_
        exact b_Mo_quantified_119 a0 a1 a2 a3 a4 a5 a6 s0 a8 h _ hf
theorem b_Mo_quantified_84 (a0 : Nat) (a1 : Int) (a2 : Int) (a3 : Int) (a4 : Int) (a5 : Int) (a6 : Int) (a7 : Int) (s0 : Int) (h : zH) (r : Int × zH) (hf : f_Mo_quantified_84 a0 a1 a2 a3 a4 a5 a6 a7 s0 h = some r) : zK m_Mo_quantified 84 [(0, (2, ((a0 : Nat) : Int))), (1, (0, a1)), (2, (0, a2)), (3, (0, a3)), (4, (0, a4)), (5, (0, a5)), (6, (0, a6)), (7, (0, a7))] [(0, s0)] h (some (0, r.1), r.2) := by
  unfold f_Mo_quantified_84 at hf
  refine k_istore (pc := 84) (L' := [(8, (0, s0)), (0, (2, ((a0 : Nat) : Int))), (1, (0, a1)), (2, (0, a2)), (3, (0, a3)), (4, (0, a4)), (5, (0, a5)), (6, (0, a6)), (7, (0, a7))]) d_Mo_quantified_84 (Nat.le_of_ble_eq_true rfl) rfl ?_
  refine k_iload (pc := 86) z_m0 d_Mo_quantified_86 ?_
  rcases z_it hf with ⟨w25, hf⟩ | ⟨w25, hf⟩
  · refine k_if_eq_t (pc := 88) (tgt := 98) w25 d_Mo_quantified_88 rfl ?_
    refine k_iload (pc := 98) z_m8 d_Mo_quantified_98 ?_
    refine k_sub [1, 2, 3, 4, 5, 6, 7, 0] rfl ?_
    exact b_Mo_quantified_100 a0 a1 a2 a3 a4 a5 a6 s0 a7 h _ hf
  · refine k_if_eq_f (pc := 88) (tgt := 98) w25 d_Mo_quantified_88 rfl ?_
    refine k_iload (pc := 91) z_m8 d_Mo_quantified_91 ?_
    refine k_iconst (pc := 93) (zi_lit rfl) d_Mo_quantified_93 ?_
    refine k_iadd (pc := 94) d_Mo_quantified_94 ?_
    refine k_goto (pc := 95) (tgt := 100) d_Mo_quantified_95 rfl ?_
    refine k_sub [1, 2, 3, 4, 5, 6, 7, 0] rfl ?_
    exact b_Mo_quantified_100 a0 a1 a2 a3 a4 a5 a6 s0 (zw (a7 + 1)) h _ hf
theorem b_Mo_quantified_83 (a0 : Nat) (a1 : Int) (a2 : Int) (a3 : Int) (a4 : Int) (a5 : Int) (a6 : Int) (a7 : Int) (h : zH) (r : Int × zH) (hf : f_Mo_quantified_83 a0 a1 a2 a3 a4 a5 a6 a7 h = some r) : zK m_Mo_quantified 83 [(0, (2, ((a0 : Nat) : Int))), (1, (0, a1)), (2, (0, a2)), (3, (0, a3)), (4, (0, a4)), (5, (0, a5)), (6, (0, a6)), (7, (0, a7))] [] h (some (0, r.1), r.2) := by
  unfold f_Mo_quantified_83 at hf
  refine k_iconst (pc := 83) (zi_lit rfl) d_Mo_quantified_83 ?_
  exact b_Mo_quantified_84 a0 a1 a2 a3 a4 a5 a6 a7 0 h _ hf
theorem b_Mo_quantified_60 (a0 : Nat) (a1 : Int) (a2 : Int) (a3 : Int) (a4 : Int) (a5 : Int) (a6 : Int) (s0 : Int) (h : zH) (r : Int × zH) (hf : f_Mo_quantified_60 a0 a1 a2 a3 a4 a5 a6 s0 h = some r) : zK m_Mo_quantified 60 [(0, (2, ((a0 : Nat) : Int))), (1, (0, a1)), (2, (0, a2)), (3, (0, a3)), (4, (0, a4)), (5, (0, a5)), (6, (0, a6))] [(0, s0)] h (some (0, r.1), r.2) := by
  unfold f_Mo_quantified_60 at hf
  refine k_istore (pc := 60) (L' := [(7, (0, s0)), (0, (2, ((a0 : Nat) : Int))), (1, (0, a1)), (2, (0, a2)), (3, (0, a3)), (4, (0, a4)), (5, (0, a5)), (6, (0, a6))]) d_Mo_quantified_60 (Nat.le_of_ble_eq_true rfl) rfl ?_
  refine k_iload (pc := 62) z_m7 d_Mo_quantified_62 ?_
  rcases z_it hf with ⟨w29, hf⟩ | ⟨w29, hf⟩
  · refine k_if_le_t (pc := 64) (tgt := 83) w29 d_Mo_quantified_64 rfl ?_
    refine k_sub [1, 2, 3, 4, 5, 6, 7, 0] rfl ?_
    exact b_Mo_quantified_83 a0 a1 a2 a3 a4 a5 a6 s0 h _ hf
  · refine k_if_le_f (pc := 64) (tgt := 83) w29 d_Mo_quantified_64 rfl ?_
    refine k_aload_n (pc := 67) rfl z_m1 d_Mo_quantified_67 ?_
    refine k_iload_n (pc := 68) rfl z_m2 d_Mo_quantified_68 ?_
    refine k_iload (pc := 69) z_m0 d_Mo_quantified_69 ?_
    obtain ⟨n26, e_n26, hf⟩ := z_bd hf
    obtain ⟨q27, e_q27, hf⟩ := z_bd hf
    refine k_callVi (pc := 71) (as := [(0, a1), (0, s0)]) (rest := []) d_Mo_quantified_71 cw_Mo_quantified_132 rfl (Nat.le_of_ble_eq_true rfl) (z_ck_of e_n26) (t_Mo_at e_q27) ?_
    refine k_bipush (pc := 74) (zi_lit rfl) (by decide) d_Mo_quantified_74 ?_
    rcases z_it hf with ⟨w28, hf⟩ | ⟨w28, hf⟩
    · refine k_ic_ne_f (pc := 76) (tgt := 83) w28 d_Mo_quantified_76 rfl ?_
      refine k_iconst (pc := 79) (zi_lit rfl) d_Mo_quantified_79 ?_
      refine k_goto (pc := 80) (tgt := 84) d_Mo_quantified_80 rfl ?_
      refine k_sub [1, 2, 3, 4, 5, 6, 7, 0] rfl ?_
      exact b_Mo_quantified_84 a0 a1 a2 a3 a4 a5 a6 s0 1 q27.2 _ hf
    · refine k_ic_ne_t (pc := 76) (tgt := 83) w28 d_Mo_quantified_76 rfl ?_
      refine k_sub [1, 2, 3, 4, 5, 6, 7, 0] rfl ?_
      exact b_Mo_quantified_83 a0 a1 a2 a3 a4 a5 a6 s0 q27.2 _ hf
theorem b_Mo_quantified_46 (a0 : Nat) (a1 : Int) (a2 : Int) (a3 : Int) (a4 : Int) (a5 : Int) (s0 : Int) (h : zH) (r : Int × zH) (hf : f_Mo_quantified_46 a0 a1 a2 a3 a4 a5 s0 h = some r) : zK m_Mo_quantified 46 [(0, (2, ((a0 : Nat) : Int))), (1, (0, a1)), (2, (0, a2)), (3, (0, a3)), (4, (0, a4)), (5, (0, a5))] [(0, s0)] h (some (0, r.1), r.2) := by
  unfold f_Mo_quantified_46 at hf
  refine k_istore (pc := 46) (L' := [(6, (0, s0)), (0, (2, ((a0 : Nat) : Int))), (1, (0, a1)), (2, (0, a2)), (3, (0, a3)), (4, (0, a4)), (5, (0, a5))]) d_Mo_quantified_46 (Nat.le_of_ble_eq_true rfl) rfl ?_
  refine k_iload (pc := 48) z_m0 d_Mo_quantified_48 ?_
  rcases z_it hf with ⟨w30, hf⟩ | ⟨w30, hf⟩
  · refine k_if_le_t (pc := 50) (tgt := 59) w30 d_Mo_quantified_50 rfl ?_
    refine k_iload_n (pc := 59) rfl z_m4 d_Mo_quantified_59 ?_
    refine k_sub [1, 2, 3, 4, 5, 6, 0] rfl ?_
    exact b_Mo_quantified_60 a0 a1 a2 a3 a4 a5 s0 a3 h _ hf
  · refine k_if_le_f (pc := 50) (tgt := 59) w30 d_Mo_quantified_50 rfl ?_
    refine k_iload_n (pc := 53) rfl z_m4 d_Mo_quantified_53 ?_
    refine k_iconst (pc := 54) (zi_lit rfl) d_Mo_quantified_54 ?_
    refine k_iadd (pc := 55) d_Mo_quantified_55 ?_
    refine k_goto (pc := 56) (tgt := 60) d_Mo_quantified_56 rfl ?_
    refine k_sub [1, 2, 3, 4, 5, 6, 0] rfl ?_
    exact b_Mo_quantified_60 a0 a1 a2 a3 a4 a5 s0 (zw (a3 + 1)) h _ hf
theorem b_Mo_quantified_0 (a0 : Nat) (a1 : Int) (a2 : Int) (a3 : Int) (a4 : Int) (a5 : Int) (h : zH) (r : Int × zH) (hf : f_Mo_quantified a0 a1 a2 a3 a4 a5 h = some r) : zK m_Mo_quantified 0 [(0, (2, ((a0 : Nat) : Int))), (1, (0, a1)), (2, (0, a2)), (3, (0, a3)), (4, (0, a4)), (5, (0, a5))] [] h (some (0, r.1), r.2) := by
  unfold f_Mo_quantified at hf
  refine k_aload_n (pc := 0) rfl z_m0 d_Mo_quantified_0 ?_
  refine k_iload_n (pc := 1) rfl z_m1 d_Mo_quantified_1 ?_
  refine k_iload_n (pc := 2) rfl z_m3 d_Mo_quantified_2 ?_
  obtain ⟨n31, e_n31, hf⟩ := z_bd hf
  obtain ⟨q32, e_q32, hf⟩ := z_bd hf
  refine k_callVi (pc := 3) (as := [(0, a1), (0, a3)]) (rest := []) d_Mo_quantified_3 cw_Mo_quantified_132 rfl (Nat.le_of_ble_eq_true rfl) (z_ck_of e_n31) (t_Mo_at e_q32) ?_
  refine k_bipush (pc := 6) (zi_lit rfl) (by decide) d_Mo_quantified_6 ?_
  rcases z_it hf with ⟨w39, hf⟩ | ⟨w39, hf⟩
  · refine k_ic_ne_f (pc := 8) (tgt := 15) w39 d_Mo_quantified_8 rfl ?_
    refine k_iconst (pc := 11) (zi_lit rfl) d_Mo_quantified_11 ?_
    refine k_goto (pc := 12) (tgt := 46) d_Mo_quantified_12 rfl ?_
    exact b_Mo_quantified_46 a0 a1 a2 a3 a4 a5 1 q32.2 _ hf
  · refine k_ic_ne_t (pc := 8) (tgt := 15) w39 d_Mo_quantified_8 rfl ?_
    refine k_aload_n (pc := 15) rfl z_m0 d_Mo_quantified_15 ?_
    refine k_iload_n (pc := 16) rfl z_m1 d_Mo_quantified_16 ?_
    refine k_iload_n (pc := 17) rfl z_m3 d_Mo_quantified_17 ?_
    obtain ⟨n33, e_n33, hf⟩ := z_bd hf
    obtain ⟨q34, e_q34, hf⟩ := z_bd hf
    refine k_callVi (pc := 18) (as := [(0, a1), (0, a3)]) (rest := []) d_Mo_quantified_18 cw_Mo_quantified_132 rfl (Nat.le_of_ble_eq_true rfl) (z_ck_of e_n33) (t_Mo_at e_q34) ?_
    refine k_bipush (pc := 21) (zi_lit rfl) (by decide) d_Mo_quantified_21 ?_
    rcases z_it hf with ⟨w38, hf⟩ | ⟨w38, hf⟩
    · refine k_ic_ne_f (pc := 23) (tgt := 30) w38 d_Mo_quantified_23 rfl ?_
      refine k_iconst (pc := 26) (zi_lit rfl) d_Mo_quantified_26 ?_
      refine k_goto (pc := 27) (tgt := 46) d_Mo_quantified_27 rfl ?_
      exact b_Mo_quantified_46 a0 a1 a2 a3 a4 a5 2 q34.2 _ hf
    · refine k_ic_ne_t (pc := 23) (tgt := 30) w38 d_Mo_quantified_23 rfl ?_
      refine k_aload_n (pc := 30) rfl z_m0 d_Mo_quantified_30 ?_
      refine k_iload_n (pc := 31) rfl z_m1 d_Mo_quantified_31 ?_
      refine k_iload_n (pc := 32) rfl z_m3 d_Mo_quantified_32 ?_
      obtain ⟨n35, e_n35, hf⟩ := z_bd hf
      obtain ⟨q36, e_q36, hf⟩ := z_bd hf
      refine k_callVi (pc := 33) (as := [(0, a1), (0, a3)]) (rest := []) d_Mo_quantified_33 cw_Mo_quantified_132 rfl (Nat.le_of_ble_eq_true rfl) (z_ck_of e_n35) (t_Mo_at e_q36) ?_
      refine k_bipush (pc := 36) (zi_lit rfl) (by decide) d_Mo_quantified_36 ?_
      rcases z_it hf with ⟨w37, hf⟩ | ⟨w37, hf⟩
      · refine k_ic_ne_f (pc := 38) (tgt := 45) w37 d_Mo_quantified_38 rfl ?_
        refine k_iconst (pc := 41) (zi_lit rfl) d_Mo_quantified_41 ?_
        refine k_goto (pc := 42) (tgt := 46) d_Mo_quantified_42 rfl ?_
        exact b_Mo_quantified_46 a0 a1 a2 a3 a4 a5 3 q36.2 _ hf
      · refine k_ic_ne_t (pc := 38) (tgt := 45) w37 d_Mo_quantified_38 rfl ?_
        refine k_iconst (pc := 45) (zi_lit rfl) d_Mo_quantified_45 ?_
        exact b_Mo_quantified_46 a0 a1 a2 a3 a4 a5 0 q36.2 _ hf
theorem t_Mo_quantified {a0 : Nat} {a1 : Int} {a2 : Int} {a3 : Int} {a4 : Int} {a5 : Int} {h : zH} {r : Int × zH} (hf : f_Mo_quantified a0 a1 a2 a3 a4 a5 h = some r) : zMt m_Mo_quantified [(2, ((a0 : Nat) : Int)), (0, a1), (0, a2), (0, a3), (0, a4), (0, a5)] h (some (0, r.1), r.2) := zMt.of (by decide) (Nat.le_of_ble_eq_true rfl) (b_Mo_quantified_0 a0 a1 a2 a3 a4 a5 h r hf)
theorem b_Mo_openLevel_0 (a0 : Nat) (a1 : Int) (a2 : Int) (h : zH) (r : zH) (hf : f_Mo_openLevel a0 a1 a2 h = some r) : zK m_Mo_openLevel 0 [(0, (2, ((a0 : Nat) : Int))), (1, (0, a1)), (2, (0, a2))] [] h (none, r) := by
  unfold f_Mo_openLevel at hf
  refine k_aload_n (pc := 0) rfl z_m0 d_Mo_openLevel_0 ?_
  obtain ⟨v1, e_v1, hf⟩ := z_bd hf
  refine k_getR (pc := 1) d_Mo_openLevel_1 fd_Mo_53 rfl e_v1 ?_
  refine k_iload_n (pc := 4) rfl z_m1 d_Mo_openLevel_4 ?_
  refine k_iload_n (pc := 5) rfl z_m2 d_Mo_openLevel_5 ?_
  obtain ⟨h2, e_h2, hf⟩ := z_bd hf
  refine k_iast (pc := 6) d_Mo_openLevel_6 e_h2 ?_
  refine k_aload_n (pc := 7) rfl z_m0 d_Mo_openLevel_7 ?_
  obtain ⟨v3, e_v3, hf⟩ := z_bd hf
  refine k_getR (pc := 8) d_Mo_openLevel_8 fd_Mo_56 rfl e_v3 ?_
  refine k_iload_n (pc := 11) rfl z_m1 d_Mo_openLevel_11 ?_
  refine k_iload_n (pc := 12) rfl z_m2 d_Mo_openLevel_12 ?_
  obtain ⟨h4, e_h4, hf⟩ := z_bd hf
  refine k_iast (pc := 13) d_Mo_openLevel_13 e_h4 ?_
  refine k_aload_n (pc := 14) rfl z_m0 d_Mo_openLevel_14 ?_
  obtain ⟨v5, e_v5, hf⟩ := z_bd hf
  refine k_getR (pc := 15) d_Mo_openLevel_15 fd_Mo_59 rfl e_v5 ?_
  refine k_iload_n (pc := 18) rfl z_m1 d_Mo_openLevel_18 ?_
  refine k_iconst (pc := 19) (zi_lit rfl) d_Mo_openLevel_19 ?_
  obtain ⟨h6, e_h6, hf⟩ := z_bd hf
  refine k_zast (pc := 20) d_Mo_openLevel_20 e_h6 ?_
  refine k_aload_n (pc := 21) rfl z_m0 d_Mo_openLevel_21 ?_
  obtain ⟨v7, e_v7, hf⟩ := z_bd hf
  refine k_getR (pc := 22) d_Mo_openLevel_22 fd_Mo_62 rfl e_v7 ?_
  refine k_iload_n (pc := 25) rfl z_m1 d_Mo_openLevel_25 ?_
  refine k_iconst (pc := 26) (zi_lit rfl) d_Mo_openLevel_26 ?_
  obtain ⟨h8, e_h8, hf⟩ := z_bd hf
  refine k_zast (pc := 27) d_Mo_openLevel_27 e_h8 ?_
  cases hf
  exact k_ret (pc := 28) d_Mo_openLevel_28 rfl
theorem t_Mo_openLevel {a0 : Nat} {a1 : Int} {a2 : Int} {h : zH} {r : zH} (hf : f_Mo_openLevel a0 a1 a2 h = some r) : zMt m_Mo_openLevel [(2, ((a0 : Nat) : Int)), (0, a1), (0, a2)] h (none, r) := zMt.of (by decide) (Nat.le_of_ble_eq_true rfl) (b_Mo_openLevel_0 a0 a1 a2 h r hf)
theorem b_Mo_note_45 (a0 : Nat) (a3 : Int) (s0 : Nat) (s1 : Int) (s2 : Int) (h : zH) (r : zH) (hf : f_Mo_note_45 a0 a3 s0 s1 s2 h = some r) : zK m_Mo_note 45 [(0, (2, ((a0 : Nat) : Int))), (3, (0, a3))] [(0, s2), (0, s1), (2, ((s0 : Nat) : Int))] h (none, r) := by
  unfold f_Mo_note_45 at hf
  obtain ⟨h1, e_h1, hf⟩ := z_bd hf
  refine k_zast (pc := 45) d_Mo_note_45 e_h1 ?_
  refine k_aload_n (pc := 46) rfl z_m0 d_Mo_note_46 ?_
  obtain ⟨v2, e_v2, hf⟩ := z_bd hf
  refine k_getR (pc := 47) d_Mo_note_47 fd_Mo_62 rfl e_v2 ?_
  refine k_iload_n (pc := 50) rfl z_m1 d_Mo_note_50 ?_
  refine k_iconst (pc := 51) (zi_lit rfl) d_Mo_note_51 ?_
  obtain ⟨h3, e_h3, hf⟩ := z_bd hf
  refine k_zast (pc := 52) d_Mo_note_52 e_h3 ?_
  cases hf
  exact k_ret (pc := 53) d_Mo_note_53 rfl
theorem b_Mo_note_40 (a0 : Nat) (a3 : Int) (s0 : Nat) (s1 : Int) (h : zH) (r : zH) (hf : f_Mo_note_40 a0 a3 s0 s1 h = some r) : zK m_Mo_note 40 [(0, (2, ((a0 : Nat) : Int))), (3, (0, a3))] [(0, s1), (2, ((s0 : Nat) : Int))] h (none, r) := by
  unfold f_Mo_note_40 at hf
  refine k_iconst (pc := 40) (zi_lit rfl) d_Mo_note_40 ?_
  refine k_goto (pc := 41) (tgt := 45) d_Mo_note_41 rfl ?_
  exact b_Mo_note_45 a0 a3 s0 s1 1 h _ hf
theorem b_Mo_note_0 (a0 : Nat) (a1 : Int) (a2 : Int) (a3 : Int) (h : zH) (r : zH) (hf : f_Mo_note a0 a1 a2 a3 h = some r) : zK m_Mo_note 0 [(0, (2, ((a0 : Nat) : Int))), (1, (0, a1)), (2, (0, a2)), (3, (0, a3))] [] h (none, r) := by
  unfold f_Mo_note at hf
  refine k_aload_n (pc := 0) rfl z_m0 d_Mo_note_0 ?_
  obtain ⟨v4, e_v4, hf⟩ := z_bd hf
  refine k_getR (pc := 1) d_Mo_note_1 fd_Mo_44 rfl e_v4 ?_
  refine k_bipush (pc := 4) (zi_lit rfl) (by decide) d_Mo_note_4 ?_
  refine k_iload_n (pc := 6) rfl z_m1 d_Mo_note_6 ?_
  refine k_imul (pc := 7) d_Mo_note_7 ?_
  refine k_iload_n (pc := 8) rfl z_m2 d_Mo_note_8 ?_
  refine k_iadd (pc := 9) d_Mo_note_9 ?_
  refine k_aload_n (pc := 10) rfl z_m0 d_Mo_note_10 ?_
  obtain ⟨v5, e_v5, hf⟩ := z_bd hf
  refine k_getR (pc := 11) d_Mo_note_11 fd_Mo_53 rfl e_v5 ?_
  refine k_iload_n (pc := 14) rfl z_m3 d_Mo_note_14 ?_
  obtain ⟨v6, e_v6, hf⟩ := z_bd hf
  refine k_iald (pc := 15) d_Mo_note_15 e_v6 ?_
  obtain ⟨h7, e_h7, hf⟩ := z_bd hf
  refine k_iast (pc := 16) d_Mo_note_16 e_h7 ?_
  refine k_aload_n (pc := 17) rfl z_m0 d_Mo_note_17 ?_
  obtain ⟨v8, e_v8, hf⟩ := z_bd hf
  refine k_getR (pc := 18) d_Mo_note_18 fd_Mo_59 rfl e_v8 ?_
  refine k_iload_n (pc := 21) rfl z_m3 d_Mo_note_21 ?_
  refine k_aload_n (pc := 22) rfl z_m0 d_Mo_note_22 ?_
  obtain ⟨v9, e_v9, hf⟩ := z_bd hf
  refine k_getR (pc := 23) d_Mo_note_23 fd_Mo_59 rfl e_v9 ?_
  refine k_iload_n (pc := 26) rfl z_m3 d_Mo_note_26 ?_
  obtain ⟨v10, e_v10, hf⟩ := z_bd hf
  refine k_zald (pc := 27) d_Mo_note_27 e_v10 ?_
  rcases z_it hf with ⟨w14, hf⟩ | ⟨w14, hf⟩
  · refine k_if_ne_f (pc := 28) (tgt := 40) w14 d_Mo_note_28 rfl ?_
    refine k_aload_n (pc := 31) rfl z_m0 d_Mo_note_31 ?_
    obtain ⟨v11, e_v11, hf⟩ := z_bd hf
    refine k_getR (pc := 32) d_Mo_note_32 fd_Mo_62 rfl e_v11 ?_
    refine k_iload_n (pc := 35) rfl z_m3 d_Mo_note_35 ?_
    obtain ⟨v12, e_v12, hf⟩ := z_bd hf
    refine k_zald (pc := 36) d_Mo_note_36 e_v12 ?_
    rcases z_it hf with ⟨w13, hf⟩ | ⟨w13, hf⟩
    · refine k_if_eq_t (pc := 37) (tgt := 44) w13 d_Mo_note_37 rfl ?_
      refine k_iconst (pc := 44) (zi_lit rfl) d_Mo_note_44 ?_
      refine k_sub [0, 3] rfl ?_
      exact b_Mo_note_45 a0 a3 v8 a3 0 h7 _ hf
    · refine k_if_eq_f (pc := 37) (tgt := 44) w13 d_Mo_note_37 rfl ?_
      refine k_sub [0, 3] rfl ?_
      exact b_Mo_note_40 a0 a3 v8 a3 h7 _ hf
  · refine k_if_ne_t (pc := 28) (tgt := 40) w14 d_Mo_note_28 rfl ?_
    refine k_sub [0, 3] rfl ?_
    exact b_Mo_note_40 a0 a3 v8 a3 h7 _ hf
theorem t_Mo_note {a0 : Nat} {a1 : Int} {a2 : Int} {a3 : Int} {h : zH} {r : zH} (hf : f_Mo_note a0 a1 a2 a3 h = some r) : zMt m_Mo_note [(2, ((a0 : Nat) : Int)), (0, a1), (0, a2), (0, a3)] h (none, r) := zMt.of (by decide) (Nat.le_of_ble_eq_true rfl) (b_Mo_note_0 a0 a1 a2 a3 h r hf)
