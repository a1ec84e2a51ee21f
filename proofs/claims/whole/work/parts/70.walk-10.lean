/-! The bytecode comes to what the functions answer; printed by wip/gen/gen.py -/
theorem b_Lw_law_643 (c28 : Nat → Nat → Int → zH → Option (Int × zH)) (k28 : ∀ (x1 : Nat) (x2 : Nat) (x3 : Int) (g : zH) (r : Int × zH), c28 x1 x2 x3 g = some r → zK m_Lw_law 28 [(0, (3, 0)), (1, (2, ((x1 : Nat) : Int))), (2, (2, ((x2 : Nat) : Int))), (3, (0, x3))] [] g (some (0, r.1), r.2)) (a1 : Nat) (a2 : Nat) (a3 : Int) (h : zH) (r : Int × zH) (hf : f_Lw_law_643 c28 a1 a2 a3 h = some r) : zK m_Lw_law 643 [(0, (3, 0)), (1, (2, ((a1 : Nat) : Int))), (2, (2, ((a2 : Nat) : Int))), (3, (0, a3))] [] h (some (0, r.1), r.2) := by
  unfold f_Lw_law_643 at hf
  refine k_iinc (pc := 643) (L' := [(3, (0, zw (a3 + 5))), (0, (3, 0)), (1, (2, ((a1 : Nat) : Int))), (2, (2, ((a2 : Nat) : Int)))]) z_m3 d_Lw_law_643 (Nat.le_of_ble_eq_true rfl) rfl ?_
  refine k_goto (pc := 646) (tgt := 28) d_Lw_law_646 rfl ?_
  refine k_sub [1, 2, 3, 0] rfl ?_
  exact k28 a1 a2 (zw (a3 + 5)) h _ hf
theorem b_Lw_law_28 : ∀ (n : Nat) (a1 : Nat) (a2 : Nat) (a3 : Int) (h : zH) (r : Int × zH), f_Lw_law_28 n a1 a2 a3 h = some r → zK m_Lw_law 28 [(0, (3, 0)), (1, (2, ((a1 : Nat) : Int))), (2, (2, ((a2 : Nat) : Int))), (3, (0, a3))] [] h (some (0, r.1), r.2) := by
  intro n
  induction n with
  | zero =>
    intro a1 a2 a3 h r hf
    cases hf
  | succ n ih =>
    intro a1 a2 a3 h r hf
    unfold f_Lw_law_28 at hf
    refine k_iload_n (pc := 28) rfl z_m3 d_Lw_law_28 ?_
    refine k_aload_s (pc := 29) rfl z_m0 d_Lw_law_29 ?_
    obtain ⟨v1, e_v1, hf⟩ := z_bd hf
    refine k_slen (pc := 30) d_Lw_law_30 e_v1 ?_
    refine k_iconst (pc := 31) (zi_lit rfl) d_Lw_law_31 ?_
    refine k_isub (pc := 32) d_Lw_law_32 ?_
    rcases z_it hf with ⟨w160, hf⟩ | ⟨w160, hf⟩
    · refine k_ic_gt_t (pc := 33) (tgt := 649) w160 d_Lw_law_33 rfl ?_
      refine k_iconst (pc := 649) (zi_lit rfl) d_Lw_law_649 ?_
      cases hf
      exact k_zret (pc := 650) d_Lw_law_650 rfl (Or.inr rfl)
    · refine k_ic_gt_f (pc := 33) (tgt := 649) w160 d_Lw_law_33 rfl ?_
      refine k_aload_s (pc := 36) rfl z_m0 d_Lw_law_36 ?_
      refine k_iload_n (pc := 37) rfl z_m3 d_Lw_law_37 ?_
      obtain ⟨v2, e_v2, hf⟩ := z_bd hf
      refine k_sld (pc := 38) d_Lw_law_38 e_v2 ?_
      refine k_bipush (pc := 39) (zi_lit rfl) (by decide) d_Lw_law_39 ?_
      refine k_iand (pc := 41) d_Lw_law_41 ?_
      rcases z_it hf with ⟨w12, hf⟩ | ⟨w12, hf⟩
      · refine k_tabI (pc := 42) (tgt := 124) (off := 82) d_Lw_law_42 (by rw [w12]; decide) (by rw [w12]; decide) (by rw [w12]; rfl) rfl ?_
        refine k_aload_n (pc := 124) rfl z_m1 d_Lw_law_124 ?_
        refine k_aload_s (pc := 125) rfl z_m0 d_Lw_law_125 ?_
        refine k_iload_n (pc := 126) rfl z_m3 d_Lw_law_126 ?_
        refine k_iconst (pc := 127) (zi_lit rfl) d_Lw_law_127 ?_
        refine k_iadd (pc := 128) d_Lw_law_128 ?_
        obtain ⟨v3, e_v3, hf⟩ := z_bd hf
        refine k_sld (pc := 129) d_Lw_law_129 e_v3 ?_
        refine k_i2l (pc := 130) d_Lw_law_130 ?_
        refine k_bipush (pc := 131) (zi_lit rfl) (by decide) d_Lw_law_131 ?_
        refine k_lshl (pc := 133) d_Lw_law_133 ?_
        refine k_aload_s (pc := 134) rfl z_m0 d_Lw_law_134 ?_
        refine k_iload_n (pc := 135) rfl z_m3 d_Lw_law_135 ?_
        refine k_iconst (pc := 136) (zi_lit rfl) d_Lw_law_136 ?_
        refine k_iadd (pc := 137) d_Lw_law_137 ?_
        obtain ⟨v4, e_v4, hf⟩ := z_bd hf
        refine k_sld (pc := 138) d_Lw_law_138 e_v4 ?_
        refine k_i2l (pc := 139) d_Lw_law_139 ?_
        refine k_ldc2 (pc := 140) (zi_lit64 rfl) w_Lw_21 d_Lw_law_140 ?_
        refine k_land (pc := 143) d_Lw_law_143 ?_
        refine k_lor (pc := 144) d_Lw_law_144 ?_
        obtain ⟨n5, e_n5, hf⟩ := z_bd hf
        obtain ⟨q6, e_q6, hf⟩ := z_bd hf
        refine k_callVi (pc := 145) (as := [(1, z_lor (z_lshl v3 32) (z_land v4 4294967295))]) (rest := []) d_Lw_law_145 cw_Lw_law_23 rfl (Nat.le_of_ble_eq_true rfl) (z_ck_of e_n5) (t_SL_type e_q6) ?_
        refine k_aload_n (pc := 148) rfl z_m2 d_Lw_law_148 ?_
        refine k_aload_s (pc := 149) rfl z_m0 d_Lw_law_149 ?_
        refine k_iload_n (pc := 150) rfl z_m3 d_Lw_law_150 ?_
        refine k_iconst (pc := 151) (zi_lit rfl) d_Lw_law_151 ?_
        refine k_iadd (pc := 152) d_Lw_law_152 ?_
        obtain ⟨v7, e_v7, hf⟩ := z_bd hf
        refine k_sld (pc := 153) d_Lw_law_153 e_v7 ?_
        refine k_i2l (pc := 154) d_Lw_law_154 ?_
        refine k_bipush (pc := 155) (zi_lit rfl) (by decide) d_Lw_law_155 ?_
        refine k_lshl (pc := 157) d_Lw_law_157 ?_
        refine k_aload_s (pc := 158) rfl z_m0 d_Lw_law_158 ?_
        refine k_iload_n (pc := 159) rfl z_m3 d_Lw_law_159 ?_
        refine k_iconst (pc := 160) (zi_lit rfl) d_Lw_law_160 ?_
        refine k_iadd (pc := 161) d_Lw_law_161 ?_
        obtain ⟨v8, e_v8, hf⟩ := z_bd hf
        refine k_sld (pc := 162) d_Lw_law_162 e_v8 ?_
        refine k_i2l (pc := 163) d_Lw_law_163 ?_
        refine k_ldc2 (pc := 164) (zi_lit64 rfl) w_Lw_21 d_Lw_law_164 ?_
        refine k_land (pc := 167) d_Lw_law_167 ?_
        refine k_lor (pc := 168) d_Lw_law_168 ?_
        obtain ⟨n9, e_n9, hf⟩ := z_bd hf
        obtain ⟨q10, e_q10, hf⟩ := z_bd hf
        refine k_callVi (pc := 169) (as := [(1, z_lor (z_lshl v7 32) (z_land v8 4294967295))]) (rest := [(0, q6.1)]) d_Lw_law_169 cw_Lw_law_27 rfl (Nat.le_of_ble_eq_true rfl) (z_ck_of e_n9) (t_Mo_type e_q10) ?_
        rcases z_it hf with ⟨w11, hf⟩ | ⟨w11, hf⟩
        · refine k_ic_eq_t (pc := 172) (tgt := 643) w11 d_Lw_law_172 rfl ?_
          exact b_Lw_law_643 (f_Lw_law_28 n) ih a1 a2 a3 q10.2 _ hf
        · refine k_ic_eq_f (pc := 172) (tgt := 643) w11 d_Lw_law_172 rfl ?_
          refine k_iconst (pc := 175) (zi_lit rfl) d_Lw_law_175 ?_
          cases hf
          exact k_zret (pc := 176) d_Lw_law_176 rfl (Or.inl rfl)
      rcases z_it hf with ⟨w17, hf⟩ | ⟨w17, hf⟩
      · refine k_tabI (pc := 42) (tgt := 177) (off := 135) d_Lw_law_42 (by rw [w17]; decide) (by rw [w17]; decide) (by rw [w17]; rfl) rfl ?_
        refine k_aload_n (pc := 177) rfl z_m1 d_Lw_law_177 ?_
        obtain ⟨n13, e_n13, hf⟩ := z_bd hf
        obtain ⟨h14, e_h14, hf⟩ := z_bd hf
        refine k_callVv (pc := 178) (as := []) (rest := []) d_Lw_law_178 cw_Lw_law_28 rfl (Nat.le_of_ble_eq_true rfl) (z_ck_of e_n13) (t_SL_wipe e_h14) ?_
        refine k_aload_n (pc := 181) rfl z_m2 d_Lw_law_181 ?_
        obtain ⟨n15, e_n15, hf⟩ := z_bd hf
        obtain ⟨h16, e_h16, hf⟩ := z_bd hf
        refine k_callVv (pc := 182) (as := []) (rest := []) d_Lw_law_182 cw_Lw_law_31 rfl (Nat.le_of_ble_eq_true rfl) (z_ck_of e_n15) (t_Mo_wipe e_h16) ?_
        refine k_goto (pc := 185) (tgt := 643) d_Lw_law_185 rfl ?_
        exact b_Lw_law_643 (f_Lw_law_28 n) ih a1 a2 a3 h16 _ hf
      rcases z_it hf with ⟨w27, hf⟩ | ⟨w27, hf⟩
      · refine k_tabI (pc := 42) (tgt := 188) (off := 146) d_Lw_law_42 (by rw [w27]; decide) (by rw [w27]; decide) (by rw [w27]; rfl) rfl ?_
        refine k_aload_n (pc := 188) rfl z_m1 d_Lw_law_188 ?_
        refine k_aload_s (pc := 189) rfl z_m0 d_Lw_law_189 ?_
        refine k_iload_n (pc := 190) rfl z_m3 d_Lw_law_190 ?_
        refine k_iconst (pc := 191) (zi_lit rfl) d_Lw_law_191 ?_
        refine k_iadd (pc := 192) d_Lw_law_192 ?_
        obtain ⟨v18, e_v18, hf⟩ := z_bd hf
        refine k_sld (pc := 193) d_Lw_law_193 e_v18 ?_
        refine k_aload_s (pc := 194) rfl z_m0 d_Lw_law_194 ?_
        refine k_iload_n (pc := 195) rfl z_m3 d_Lw_law_195 ?_
        refine k_iconst (pc := 196) (zi_lit rfl) d_Lw_law_196 ?_
        refine k_iadd (pc := 197) d_Lw_law_197 ?_
        obtain ⟨v19, e_v19, hf⟩ := z_bd hf
        refine k_sld (pc := 198) d_Lw_law_198 e_v19 ?_
        obtain ⟨n20, e_n20, hf⟩ := z_bd hf
        obtain ⟨q21, e_q21, hf⟩ := z_bd hf
        refine k_callVi (pc := 199) (as := [(0, v18), (0, v19)]) (rest := []) d_Lw_law_199 cw_Lw_law_32 rfl (Nat.le_of_ble_eq_true rfl) (z_ck_of e_n20) (t_SL_piece e_q21) ?_
        refine k_aload_n (pc := 202) rfl z_m2 d_Lw_law_202 ?_
        refine k_aload_s (pc := 203) rfl z_m0 d_Lw_law_203 ?_
        refine k_iload_n (pc := 204) rfl z_m3 d_Lw_law_204 ?_
        refine k_iconst (pc := 205) (zi_lit rfl) d_Lw_law_205 ?_
        refine k_iadd (pc := 206) d_Lw_law_206 ?_
        obtain ⟨v22, e_v22, hf⟩ := z_bd hf
        refine k_sld (pc := 207) d_Lw_law_207 e_v22 ?_
        refine k_aload_s (pc := 208) rfl z_m0 d_Lw_law_208 ?_
        refine k_iload_n (pc := 209) rfl z_m3 d_Lw_law_209 ?_
        refine k_iconst (pc := 210) (zi_lit rfl) d_Lw_law_210 ?_
        refine k_iadd (pc := 211) d_Lw_law_211 ?_
        obtain ⟨v23, e_v23, hf⟩ := z_bd hf
        refine k_sld (pc := 212) d_Lw_law_212 e_v23 ?_
        obtain ⟨n24, e_n24, hf⟩ := z_bd hf
        obtain ⟨q25, e_q25, hf⟩ := z_bd hf
        refine k_callVi (pc := 213) (as := [(0, v22), (0, v23)]) (rest := [(0, q21.1)]) d_Lw_law_213 cw_Lw_law_36 rfl (Nat.le_of_ble_eq_true rfl) (z_ck_of e_n24) (t_Mo_piece e_q25) ?_
        rcases z_it hf with ⟨w26, hf⟩ | ⟨w26, hf⟩
        · refine k_ic_eq_t (pc := 216) (tgt := 643) w26 d_Lw_law_216 rfl ?_
          exact b_Lw_law_643 (f_Lw_law_28 n) ih a1 a2 a3 q25.2 _ hf
        · refine k_ic_eq_f (pc := 216) (tgt := 643) w26 d_Lw_law_216 rfl ?_
          refine k_iconst (pc := 219) (zi_lit rfl) d_Lw_law_219 ?_
          cases hf
          exact k_zret (pc := 220) d_Lw_law_220 rfl (Or.inl rfl)
      rcases z_it hf with ⟨w37, hf⟩ | ⟨w37, hf⟩
      · refine k_tabI (pc := 42) (tgt := 221) (off := 179) d_Lw_law_42 (by rw [w37]; decide) (by rw [w37]; decide) (by rw [w37]; rfl) rfl ?_
        refine k_aload_n (pc := 221) rfl z_m1 d_Lw_law_221 ?_
        refine k_aload_s (pc := 222) rfl z_m0 d_Lw_law_222 ?_
        refine k_iload_n (pc := 223) rfl z_m3 d_Lw_law_223 ?_
        refine k_iconst (pc := 224) (zi_lit rfl) d_Lw_law_224 ?_
        refine k_iadd (pc := 225) d_Lw_law_225 ?_
        obtain ⟨v28, e_v28, hf⟩ := z_bd hf
        refine k_sld (pc := 226) d_Lw_law_226 e_v28 ?_
        refine k_aload_s (pc := 227) rfl z_m0 d_Lw_law_227 ?_
        refine k_iload_n (pc := 228) rfl z_m3 d_Lw_law_228 ?_
        refine k_iconst (pc := 229) (zi_lit rfl) d_Lw_law_229 ?_
        refine k_iadd (pc := 230) d_Lw_law_230 ?_
        obtain ⟨v29, e_v29, hf⟩ := z_bd hf
        refine k_sld (pc := 231) d_Lw_law_231 e_v29 ?_
        obtain ⟨n30, e_n30, hf⟩ := z_bd hf
        obtain ⟨q31, e_q31, hf⟩ := z_bd hf
        refine k_callVi (pc := 232) (as := [(0, v28), (0, v29)]) (rest := []) d_Lw_law_232 cw_Lw_law_37 rfl (Nat.le_of_ble_eq_true rfl) (z_ck_of e_n30) (t_SL_range e_q31) ?_
        refine k_aload_n (pc := 235) rfl z_m2 d_Lw_law_235 ?_
        refine k_aload_s (pc := 236) rfl z_m0 d_Lw_law_236 ?_
        refine k_iload_n (pc := 237) rfl z_m3 d_Lw_law_237 ?_
        refine k_iconst (pc := 238) (zi_lit rfl) d_Lw_law_238 ?_
        refine k_iadd (pc := 239) d_Lw_law_239 ?_
        obtain ⟨v32, e_v32, hf⟩ := z_bd hf
        refine k_sld (pc := 240) d_Lw_law_240 e_v32 ?_
        refine k_aload_s (pc := 241) rfl z_m0 d_Lw_law_241 ?_
        refine k_iload_n (pc := 242) rfl z_m3 d_Lw_law_242 ?_
        refine k_iconst (pc := 243) (zi_lit rfl) d_Lw_law_243 ?_
        refine k_iadd (pc := 244) d_Lw_law_244 ?_
        obtain ⟨v33, e_v33, hf⟩ := z_bd hf
        refine k_sld (pc := 245) d_Lw_law_245 e_v33 ?_
        obtain ⟨n34, e_n34, hf⟩ := z_bd hf
        obtain ⟨q35, e_q35, hf⟩ := z_bd hf
        refine k_callVi (pc := 246) (as := [(0, v32), (0, v33)]) (rest := [(0, q31.1)]) d_Lw_law_246 cw_Lw_law_40 rfl (Nat.le_of_ble_eq_true rfl) (z_ck_of e_n34) (t_Mo_range e_q35) ?_
        rcases z_it hf with ⟨w36, hf⟩ | ⟨w36, hf⟩
        · refine k_ic_eq_t (pc := 249) (tgt := 643) w36 d_Lw_law_249 rfl ?_
          exact b_Lw_law_643 (f_Lw_law_28 n) ih a1 a2 a3 q35.2 _ hf
        · refine k_ic_eq_f (pc := 249) (tgt := 643) w36 d_Lw_law_249 rfl ?_
          refine k_iconst (pc := 252) (zi_lit rfl) d_Lw_law_252 ?_
          cases hf
          exact k_zret (pc := 253) d_Lw_law_253 rfl (Or.inl rfl)
      rcases z_it hf with ⟨w47, hf⟩ | ⟨w47, hf⟩
      · refine k_tabI (pc := 42) (tgt := 254) (off := 212) d_Lw_law_42 (by rw [w47]; decide) (by rw [w47]; decide) (by rw [w47]; rfl) rfl ?_
        refine k_aload_n (pc := 254) rfl z_m1 d_Lw_law_254 ?_
        refine k_aload_s (pc := 255) rfl z_m0 d_Lw_law_255 ?_
        refine k_iload_n (pc := 256) rfl z_m3 d_Lw_law_256 ?_
        refine k_iconst (pc := 257) (zi_lit rfl) d_Lw_law_257 ?_
        refine k_iadd (pc := 258) d_Lw_law_258 ?_
        obtain ⟨v38, e_v38, hf⟩ := z_bd hf
        refine k_sld (pc := 259) d_Lw_law_259 e_v38 ?_
        refine k_aload_s (pc := 260) rfl z_m0 d_Lw_law_260 ?_
        refine k_iload_n (pc := 261) rfl z_m3 d_Lw_law_261 ?_
        refine k_iconst (pc := 262) (zi_lit rfl) d_Lw_law_262 ?_
        refine k_iadd (pc := 263) d_Lw_law_263 ?_
        obtain ⟨v39, e_v39, hf⟩ := z_bd hf
        refine k_sld (pc := 264) d_Lw_law_264 e_v39 ?_
        obtain ⟨n40, e_n40, hf⟩ := z_bd hf
        obtain ⟨q41, e_q41, hf⟩ := z_bd hf
        refine k_callVi (pc := 265) (as := [(0, v38), (0, v39)]) (rest := []) d_Lw_law_265 cw_Lw_law_41 rfl (Nat.le_of_ble_eq_true rfl) (z_ck_of e_n40) (t_SL_include e_q41) ?_
        refine k_aload_n (pc := 268) rfl z_m2 d_Lw_law_268 ?_
        refine k_aload_s (pc := 269) rfl z_m0 d_Lw_law_269 ?_
        refine k_iload_n (pc := 270) rfl z_m3 d_Lw_law_270 ?_
        refine k_iconst (pc := 271) (zi_lit rfl) d_Lw_law_271 ?_
        refine k_iadd (pc := 272) d_Lw_law_272 ?_
        obtain ⟨v42, e_v42, hf⟩ := z_bd hf
        refine k_sld (pc := 273) d_Lw_law_273 e_v42 ?_
        refine k_aload_s (pc := 274) rfl z_m0 d_Lw_law_274 ?_
        refine k_iload_n (pc := 275) rfl z_m3 d_Lw_law_275 ?_
        refine k_iconst (pc := 276) (zi_lit rfl) d_Lw_law_276 ?_
        refine k_iadd (pc := 277) d_Lw_law_277 ?_
        obtain ⟨v43, e_v43, hf⟩ := z_bd hf
        refine k_sld (pc := 278) d_Lw_law_278 e_v43 ?_
        obtain ⟨n44, e_n44, hf⟩ := z_bd hf
        obtain ⟨q45, e_q45, hf⟩ := z_bd hf
        refine k_callVi (pc := 279) (as := [(0, v42), (0, v43)]) (rest := [(0, q41.1)]) d_Lw_law_279 cw_Lw_law_45 rfl (Nat.le_of_ble_eq_true rfl) (z_ck_of e_n44) (t_Mo_include e_q45) ?_
        rcases z_it hf with ⟨w46, hf⟩ | ⟨w46, hf⟩
        · refine k_ic_eq_t (pc := 282) (tgt := 643) w46 d_Lw_law_282 rfl ?_
          exact b_Lw_law_643 (f_Lw_law_28 n) ih a1 a2 a3 q45.2 _ hf
        · refine k_ic_eq_f (pc := 282) (tgt := 643) w46 d_Lw_law_282 rfl ?_
          refine k_iconst (pc := 285) (zi_lit rfl) d_Lw_law_285 ?_
          cases hf
          exact k_zret (pc := 286) d_Lw_law_286 rfl (Or.inl rfl)
      rcases z_it hf with ⟨w59, hf⟩ | ⟨w59, hf⟩
      · refine k_tabI (pc := 42) (tgt := 287) (off := 245) d_Lw_law_42 (by rw [w59]; decide) (by rw [w59]; decide) (by rw [w59]; rfl) rfl ?_
        refine k_aload_n (pc := 287) rfl z_m1 d_Lw_law_287 ?_
        refine k_aload_s (pc := 288) rfl z_m0 d_Lw_law_288 ?_
        refine k_iload_n (pc := 289) rfl z_m3 d_Lw_law_289 ?_
        refine k_iconst (pc := 290) (zi_lit rfl) d_Lw_law_290 ?_
        refine k_iadd (pc := 291) d_Lw_law_291 ?_
        obtain ⟨v48, e_v48, hf⟩ := z_bd hf
        refine k_sld (pc := 292) d_Lw_law_292 e_v48 ?_
        refine k_aload_s (pc := 293) rfl z_m0 d_Lw_law_293 ?_
        refine k_iload_n (pc := 294) rfl z_m3 d_Lw_law_294 ?_
        refine k_iconst (pc := 295) (zi_lit rfl) d_Lw_law_295 ?_
        refine k_iadd (pc := 296) d_Lw_law_296 ?_
        obtain ⟨v49, e_v49, hf⟩ := z_bd hf
        refine k_sld (pc := 297) d_Lw_law_297 e_v49 ?_
        refine k_aload_s (pc := 298) rfl z_m0 d_Lw_law_298 ?_
        refine k_iload_n (pc := 299) rfl z_m3 d_Lw_law_299 ?_
        refine k_iconst (pc := 300) (zi_lit rfl) d_Lw_law_300 ?_
        refine k_iadd (pc := 301) d_Lw_law_301 ?_
        obtain ⟨v50, e_v50, hf⟩ := z_bd hf
        refine k_sld (pc := 302) d_Lw_law_302 e_v50 ?_
        obtain ⟨n51, e_n51, hf⟩ := z_bd hf
        obtain ⟨q52, e_q52, hf⟩ := z_bd hf
        refine k_callVi (pc := 303) (as := [(0, v48), (0, v49), (0, v50)]) (rest := []) d_Lw_law_303 cw_Lw_law_46 rfl (Nat.le_of_ble_eq_true rfl) (z_ck_of e_n51) (t_SL_theme e_q52) ?_
        refine k_aload_n (pc := 306) rfl z_m2 d_Lw_law_306 ?_
        refine k_aload_s (pc := 307) rfl z_m0 d_Lw_law_307 ?_
        refine k_iload_n (pc := 308) rfl z_m3 d_Lw_law_308 ?_
        refine k_iconst (pc := 309) (zi_lit rfl) d_Lw_law_309 ?_
        refine k_iadd (pc := 310) d_Lw_law_310 ?_
        obtain ⟨v53, e_v53, hf⟩ := z_bd hf
        refine k_sld (pc := 311) d_Lw_law_311 e_v53 ?_
        refine k_aload_s (pc := 312) rfl z_m0 d_Lw_law_312 ?_
        refine k_iload_n (pc := 313) rfl z_m3 d_Lw_law_313 ?_
        refine k_iconst (pc := 314) (zi_lit rfl) d_Lw_law_314 ?_
        refine k_iadd (pc := 315) d_Lw_law_315 ?_
        obtain ⟨v54, e_v54, hf⟩ := z_bd hf
        refine k_sld (pc := 316) d_Lw_law_316 e_v54 ?_
        refine k_aload_s (pc := 317) rfl z_m0 d_Lw_law_317 ?_
        refine k_iload_n (pc := 318) rfl z_m3 d_Lw_law_318 ?_
        refine k_iconst (pc := 319) (zi_lit rfl) d_Lw_law_319 ?_
        refine k_iadd (pc := 320) d_Lw_law_320 ?_
        obtain ⟨v55, e_v55, hf⟩ := z_bd hf
        refine k_sld (pc := 321) d_Lw_law_321 e_v55 ?_
        obtain ⟨n56, e_n56, hf⟩ := z_bd hf
        obtain ⟨q57, e_q57, hf⟩ := z_bd hf
        refine k_callVi (pc := 322) (as := [(0, v53), (0, v54), (0, v55)]) (rest := [(0, q52.1)]) d_Lw_law_322 cw_Lw_law_50 rfl (Nat.le_of_ble_eq_true rfl) (z_ck_of e_n56) (t_Mo_theme e_q57) ?_
        rcases z_it hf with ⟨w58, hf⟩ | ⟨w58, hf⟩
        · refine k_ic_eq_t (pc := 325) (tgt := 643) w58 d_Lw_law_325 rfl ?_
          exact b_Lw_law_643 (f_Lw_law_28 n) ih a1 a2 a3 q57.2 _ hf
        · refine k_ic_eq_f (pc := 325) (tgt := 643) w58 d_Lw_law_325 rfl ?_
          refine k_iconst (pc := 328) (zi_lit rfl) d_Lw_law_328 ?_
          cases hf
          exact k_zret (pc := 329) d_Lw_law_329 rfl (Or.inl rfl)
      rcases z_it hf with ⟨w67, hf⟩ | ⟨w67, hf⟩
      · refine k_tabI (pc := 42) (tgt := 330) (off := 288) d_Lw_law_42 (by rw [w67]; decide) (by rw [w67]; decide) (by rw [w67]; rfl) rfl ?_
        refine k_aload_n (pc := 330) rfl z_m1 d_Lw_law_330 ?_
        refine k_aload_s (pc := 331) rfl z_m0 d_Lw_law_331 ?_
        refine k_iload_n (pc := 332) rfl z_m3 d_Lw_law_332 ?_
        refine k_iconst (pc := 333) (zi_lit rfl) d_Lw_law_333 ?_
        refine k_iadd (pc := 334) d_Lw_law_334 ?_
        obtain ⟨v60, e_v60, hf⟩ := z_bd hf
        refine k_sld (pc := 335) d_Lw_law_335 e_v60 ?_
        obtain ⟨n61, e_n61, hf⟩ := z_bd hf
        obtain ⟨q62, e_q62, hf⟩ := z_bd hf
        refine k_callVi (pc := 336) (as := [(0, v60)]) (rest := []) d_Lw_law_336 cw_Lw_law_51 rfl (Nat.le_of_ble_eq_true rfl) (z_ck_of e_n61) (t_SL_put e_q62) ?_
        refine k_aload_n (pc := 339) rfl z_m2 d_Lw_law_339 ?_
        refine k_aload_s (pc := 340) rfl z_m0 d_Lw_law_340 ?_
        refine k_iload_n (pc := 341) rfl z_m3 d_Lw_law_341 ?_
        refine k_iconst (pc := 342) (zi_lit rfl) d_Lw_law_342 ?_
        refine k_iadd (pc := 343) d_Lw_law_343 ?_
        obtain ⟨v63, e_v63, hf⟩ := z_bd hf
        refine k_sld (pc := 344) d_Lw_law_344 e_v63 ?_
        obtain ⟨n64, e_n64, hf⟩ := z_bd hf
        obtain ⟨q65, e_q65, hf⟩ := z_bd hf
        refine k_callVi (pc := 345) (as := [(0, v63)]) (rest := [(0, q62.1)]) d_Lw_law_345 cw_Lw_law_55 rfl (Nat.le_of_ble_eq_true rfl) (z_ck_of e_n64) (t_Mo_put e_q65) ?_
        rcases z_it hf with ⟨w66, hf⟩ | ⟨w66, hf⟩
        · refine k_ic_eq_t (pc := 348) (tgt := 643) w66 d_Lw_law_348 rfl ?_
          exact b_Lw_law_643 (f_Lw_law_28 n) ih a1 a2 a3 q65.2 _ hf
        · refine k_ic_eq_f (pc := 348) (tgt := 643) w66 d_Lw_law_348 rfl ?_
          refine k_iconst (pc := 351) (zi_lit rfl) d_Lw_law_351 ?_
          cases hf
          exact k_zret (pc := 352) d_Lw_law_352 rfl (Or.inl rfl)
      rcases z_it hf with ⟨w75, hf⟩ | ⟨w75, hf⟩
      · refine k_tabI (pc := 42) (tgt := 353) (off := 311) d_Lw_law_42 (by rw [w75]; decide) (by rw [w75]; decide) (by rw [w75]; rfl) rfl ?_
        refine k_aload_n (pc := 353) rfl z_m1 d_Lw_law_353 ?_
        refine k_aload_s (pc := 354) rfl z_m0 d_Lw_law_354 ?_
        refine k_iload_n (pc := 355) rfl z_m3 d_Lw_law_355 ?_
        refine k_iconst (pc := 356) (zi_lit rfl) d_Lw_law_356 ?_
        refine k_iadd (pc := 357) d_Lw_law_357 ?_
        obtain ⟨v68, e_v68, hf⟩ := z_bd hf
        refine k_sld (pc := 358) d_Lw_law_358 e_v68 ?_
        obtain ⟨n69, e_n69, hf⟩ := z_bd hf
        obtain ⟨q70, e_q70, hf⟩ := z_bd hf
        refine k_callVi (pc := 359) (as := [(0, v68)]) (rest := []) d_Lw_law_359 cw_Lw_law_56 rfl (Nat.le_of_ble_eq_true rfl) (z_ck_of e_n69) (t_SL_drop e_q70) ?_
        refine k_aload_n (pc := 362) rfl z_m2 d_Lw_law_362 ?_
        refine k_aload_s (pc := 363) rfl z_m0 d_Lw_law_363 ?_
        refine k_iload_n (pc := 364) rfl z_m3 d_Lw_law_364 ?_
        refine k_iconst (pc := 365) (zi_lit rfl) d_Lw_law_365 ?_
        refine k_iadd (pc := 366) d_Lw_law_366 ?_
        obtain ⟨v71, e_v71, hf⟩ := z_bd hf
        refine k_sld (pc := 367) d_Lw_law_367 e_v71 ?_
        obtain ⟨n72, e_n72, hf⟩ := z_bd hf
        obtain ⟨q73, e_q73, hf⟩ := z_bd hf
        refine k_callVi (pc := 368) (as := [(0, v71)]) (rest := [(0, q70.1)]) d_Lw_law_368 cw_Lw_law_59 rfl (Nat.le_of_ble_eq_true rfl) (z_ck_of e_n72) (t_Mo_drop e_q73) ?_
        rcases z_it hf with ⟨w74, hf⟩ | ⟨w74, hf⟩
        · refine k_ic_eq_t (pc := 371) (tgt := 643) w74 d_Lw_law_371 rfl ?_
          exact b_Lw_law_643 (f_Lw_law_28 n) ih a1 a2 a3 q73.2 _ hf
        · refine k_ic_eq_f (pc := 371) (tgt := 643) w74 d_Lw_law_371 rfl ?_
          refine k_iconst (pc := 374) (zi_lit rfl) d_Lw_law_374 ?_
          cases hf
          exact k_zret (pc := 375) d_Lw_law_375 rfl (Or.inl rfl)
      rcases z_it hf with ⟨w81, hf⟩ | ⟨w81, hf⟩
      · refine k_tabI (pc := 42) (tgt := 376) (off := 334) d_Lw_law_42 (by rw [w81]; decide) (by rw [w81]; decide) (by rw [w81]; rfl) rfl ?_
        refine k_aload_n (pc := 376) rfl z_m1 d_Lw_law_376 ?_
        obtain ⟨n76, e_n76, hf⟩ := z_bd hf
        obtain ⟨q77, e_q77, hf⟩ := z_bd hf
        refine k_callVi (pc := 377) (as := []) (rest := []) d_Lw_law_377 cw_Lw_law_60 rfl (Nat.le_of_ble_eq_true rfl) (z_ck_of e_n76) (t_SL_lines e_q77) ?_
        refine k_aload_n (pc := 380) rfl z_m2 d_Lw_law_380 ?_
        obtain ⟨n78, e_n78, hf⟩ := z_bd hf
        obtain ⟨q79, e_q79, hf⟩ := z_bd hf
        refine k_callVi (pc := 381) (as := []) (rest := [(0, q77.1)]) d_Lw_law_381 cw_Lw_law_64 rfl (Nat.le_of_ble_eq_true rfl) (z_ck_of e_n78) (t_Mo_lines e_q79) ?_
        rcases z_it hf with ⟨w80, hf⟩ | ⟨w80, hf⟩
        · refine k_ic_eq_t (pc := 384) (tgt := 643) w80 d_Lw_law_384 rfl ?_
          exact b_Lw_law_643 (f_Lw_law_28 n) ih a1 a2 a3 q79.2 _ hf
        · refine k_ic_eq_f (pc := 384) (tgt := 643) w80 d_Lw_law_384 rfl ?_
          refine k_iconst (pc := 387) (zi_lit rfl) d_Lw_law_387 ?_
          cases hf
          exact k_zret (pc := 388) d_Lw_law_388 rfl (Or.inl rfl)
      rcases z_it hf with ⟨w87, hf⟩ | ⟨w87, hf⟩
      · refine k_tabI (pc := 42) (tgt := 389) (off := 347) d_Lw_law_42 (by rw [w87]; decide) (by rw [w87]; decide) (by rw [w87]; rfl) rfl ?_
        refine k_aload_n (pc := 389) rfl z_m1 d_Lw_law_389 ?_
        obtain ⟨n82, e_n82, hf⟩ := z_bd hf
        obtain ⟨q83, e_q83, hf⟩ := z_bd hf
        refine k_callVi (pc := 390) (as := []) (rest := []) d_Lw_law_390 cw_Lw_law_65 rfl (Nat.le_of_ble_eq_true rfl) (z_ck_of e_n82) (t_SL_passes e_q83) ?_
        refine k_aload_n (pc := 393) rfl z_m2 d_Lw_law_393 ?_
        obtain ⟨n84, e_n84, hf⟩ := z_bd hf
        obtain ⟨q85, e_q85, hf⟩ := z_bd hf
        refine k_callVi (pc := 394) (as := []) (rest := [(0, q83.1)]) d_Lw_law_394 cw_Lw_law_68 rfl (Nat.le_of_ble_eq_true rfl) (z_ck_of e_n84) (t_Mo_passes e_q85) ?_
        rcases z_it hf with ⟨w86, hf⟩ | ⟨w86, hf⟩
        · refine k_ic_eq_t (pc := 397) (tgt := 643) w86 d_Lw_law_397 rfl ?_
          exact b_Lw_law_643 (f_Lw_law_28 n) ih a1 a2 a3 q85.2 _ hf
        · refine k_ic_eq_f (pc := 397) (tgt := 643) w86 d_Lw_law_397 rfl ?_
          refine k_iconst (pc := 400) (zi_lit rfl) d_Lw_law_400 ?_
          cases hf
          exact k_zret (pc := 401) d_Lw_law_401 rfl (Or.inl rfl)
      rcases z_it hf with ⟨w95, hf⟩ | ⟨w95, hf⟩
      · refine k_tabI (pc := 42) (tgt := 402) (off := 360) d_Lw_law_42 (by rw [w95]; decide) (by rw [w95]; decide) (by rw [w95]; rfl) rfl ?_
        refine k_aload_n (pc := 402) rfl z_m1 d_Lw_law_402 ?_
        refine k_aload_s (pc := 403) rfl z_m0 d_Lw_law_403 ?_
        refine k_iload_n (pc := 404) rfl z_m3 d_Lw_law_404 ?_
        refine k_iconst (pc := 405) (zi_lit rfl) d_Lw_law_405 ?_
        refine k_iadd (pc := 406) d_Lw_law_406 ?_
        obtain ⟨v88, e_v88, hf⟩ := z_bd hf
        refine k_sld (pc := 407) d_Lw_law_407 e_v88 ?_
        obtain ⟨n89, e_n89, hf⟩ := z_bd hf
        obtain ⟨q90, e_q90, hf⟩ := z_bd hf
        refine k_callVi (pc := 408) (as := [(0, v88)]) (rest := []) d_Lw_law_408 cw_Lw_law_69 rfl (Nat.le_of_ble_eq_true rfl) (z_ck_of e_n89) (t_SL_length e_q90) ?_
        refine k_aload_n (pc := 411) rfl z_m2 d_Lw_law_411 ?_
        refine k_aload_s (pc := 412) rfl z_m0 d_Lw_law_412 ?_
        refine k_iload_n (pc := 413) rfl z_m3 d_Lw_law_413 ?_
        refine k_iconst (pc := 414) (zi_lit rfl) d_Lw_law_414 ?_
        refine k_iadd (pc := 415) d_Lw_law_415 ?_
        obtain ⟨v91, e_v91, hf⟩ := z_bd hf
        refine k_sld (pc := 416) d_Lw_law_416 e_v91 ?_
        obtain ⟨n92, e_n92, hf⟩ := z_bd hf
        obtain ⟨q93, e_q93, hf⟩ := z_bd hf
        refine k_callVi (pc := 417) (as := [(0, v91)]) (rest := [(0, q90.1)]) d_Lw_law_417 cw_Lw_law_72 rfl (Nat.le_of_ble_eq_true rfl) (z_ck_of e_n92) (t_Mo_length e_q93) ?_
        rcases z_it hf with ⟨w94, hf⟩ | ⟨w94, hf⟩
        · refine k_ic_eq_t (pc := 420) (tgt := 643) w94 d_Lw_law_420 rfl ?_
          exact b_Lw_law_643 (f_Lw_law_28 n) ih a1 a2 a3 q93.2 _ hf
        · refine k_ic_eq_f (pc := 420) (tgt := 643) w94 d_Lw_law_420 rfl ?_
          refine k_iconst (pc := 423) (zi_lit rfl) d_Lw_law_423 ?_
          cases hf
          exact k_zret (pc := 424) d_Lw_law_424 rfl (Or.inl rfl)
      rcases z_it hf with ⟨w103, hf⟩ | ⟨w103, hf⟩
      · refine k_tabI (pc := 42) (tgt := 425) (off := 383) d_Lw_law_42 (by rw [w103]; decide) (by rw [w103]; decide) (by rw [w103]; rfl) rfl ?_
        refine k_aload_n (pc := 425) rfl z_m1 d_Lw_law_425 ?_
        refine k_aload_s (pc := 426) rfl z_m0 d_Lw_law_426 ?_
        refine k_iload_n (pc := 427) rfl z_m3 d_Lw_law_427 ?_
        refine k_iconst (pc := 428) (zi_lit rfl) d_Lw_law_428 ?_
        refine k_iadd (pc := 429) d_Lw_law_429 ?_
        obtain ⟨v96, e_v96, hf⟩ := z_bd hf
        refine k_sld (pc := 430) d_Lw_law_430 e_v96 ?_
        obtain ⟨n97, e_n97, hf⟩ := z_bd hf
        obtain ⟨q98, e_q98, hf⟩ := z_bd hf
        refine k_callVi (pc := 431) (as := [(0, v96)]) (rest := []) d_Lw_law_431 cw_Lw_law_73 rfl (Nat.le_of_ble_eq_true rfl) (z_ck_of e_n97) (t_SL_tokens e_q98) ?_
        refine k_aload_n (pc := 434) rfl z_m2 d_Lw_law_434 ?_
        refine k_aload_s (pc := 435) rfl z_m0 d_Lw_law_435 ?_
        refine k_iload_n (pc := 436) rfl z_m3 d_Lw_law_436 ?_
        refine k_iconst (pc := 437) (zi_lit rfl) d_Lw_law_437 ?_
        refine k_iadd (pc := 438) d_Lw_law_438 ?_
        obtain ⟨v99, e_v99, hf⟩ := z_bd hf
        refine k_sld (pc := 439) d_Lw_law_439 e_v99 ?_
        obtain ⟨n100, e_n100, hf⟩ := z_bd hf
        obtain ⟨q101, e_q101, hf⟩ := z_bd hf
        refine k_callVi (pc := 440) (as := [(0, v99)]) (rest := [(0, q98.1)]) d_Lw_law_440 cw_Lw_law_76 rfl (Nat.le_of_ble_eq_true rfl) (z_ck_of e_n100) (t_Mo_tokens e_q101) ?_
        rcases z_it hf with ⟨w102, hf⟩ | ⟨w102, hf⟩
        · refine k_ic_eq_t (pc := 443) (tgt := 643) w102 d_Lw_law_443 rfl ?_
          exact b_Lw_law_643 (f_Lw_law_28 n) ih a1 a2 a3 q101.2 _ hf
        · refine k_ic_eq_f (pc := 443) (tgt := 643) w102 d_Lw_law_443 rfl ?_
          refine k_iconst (pc := 446) (zi_lit rfl) d_Lw_law_446 ?_
          cases hf
          exact k_zret (pc := 447) d_Lw_law_447 rfl (Or.inl rfl)
      rcases z_it hf with ⟨w115, hf⟩ | ⟨w115, hf⟩
      · refine k_tabI (pc := 42) (tgt := 448) (off := 406) d_Lw_law_42 (by rw [w115]; decide) (by rw [w115]; decide) (by rw [w115]; rfl) rfl ?_
        refine k_aload_n (pc := 448) rfl z_m1 d_Lw_law_448 ?_
        refine k_aload_s (pc := 449) rfl z_m0 d_Lw_law_449 ?_
        refine k_iload_n (pc := 450) rfl z_m3 d_Lw_law_450 ?_
        refine k_iconst (pc := 451) (zi_lit rfl) d_Lw_law_451 ?_
        refine k_iadd (pc := 452) d_Lw_law_452 ?_
        obtain ⟨v104, e_v104, hf⟩ := z_bd hf
        refine k_sld (pc := 453) d_Lw_law_453 e_v104 ?_
        refine k_aload_s (pc := 454) rfl z_m0 d_Lw_law_454 ?_
        refine k_iload_n (pc := 455) rfl z_m3 d_Lw_law_455 ?_
        refine k_iconst (pc := 456) (zi_lit rfl) d_Lw_law_456 ?_
        refine k_iadd (pc := 457) d_Lw_law_457 ?_
        obtain ⟨v105, e_v105, hf⟩ := z_bd hf
        refine k_sld (pc := 458) d_Lw_law_458 e_v105 ?_
        refine k_aload_s (pc := 459) rfl z_m0 d_Lw_law_459 ?_
        refine k_iload_n (pc := 460) rfl z_m3 d_Lw_law_460 ?_
        refine k_iconst (pc := 461) (zi_lit rfl) d_Lw_law_461 ?_
        refine k_iadd (pc := 462) d_Lw_law_462 ?_
        obtain ⟨v106, e_v106, hf⟩ := z_bd hf
        refine k_sld (pc := 463) d_Lw_law_463 e_v106 ?_
        obtain ⟨n107, e_n107, hf⟩ := z_bd hf
        obtain ⟨q108, e_q108, hf⟩ := z_bd hf
        refine k_callVi (pc := 464) (as := [(0, v104), (0, v105), (0, v106)]) (rest := []) d_Lw_law_464 cw_Lw_law_77 rfl (Nat.le_of_ble_eq_true rfl) (z_ck_of e_n107) (t_SL_token e_q108) ?_
        refine k_aload_n (pc := 467) rfl z_m2 d_Lw_law_467 ?_
        refine k_aload_s (pc := 468) rfl z_m0 d_Lw_law_468 ?_
        refine k_iload_n (pc := 469) rfl z_m3 d_Lw_law_469 ?_
        refine k_iconst (pc := 470) (zi_lit rfl) d_Lw_law_470 ?_
        refine k_iadd (pc := 471) d_Lw_law_471 ?_
        obtain ⟨v109, e_v109, hf⟩ := z_bd hf
        refine k_sld (pc := 472) d_Lw_law_472 e_v109 ?_
        refine k_aload_s (pc := 473) rfl z_m0 d_Lw_law_473 ?_
        refine k_iload_n (pc := 474) rfl z_m3 d_Lw_law_474 ?_
        refine k_iconst (pc := 475) (zi_lit rfl) d_Lw_law_475 ?_
        refine k_iadd (pc := 476) d_Lw_law_476 ?_
        obtain ⟨v110, e_v110, hf⟩ := z_bd hf
        refine k_sld (pc := 477) d_Lw_law_477 e_v110 ?_
        refine k_aload_s (pc := 478) rfl z_m0 d_Lw_law_478 ?_
        refine k_iload_n (pc := 479) rfl z_m3 d_Lw_law_479 ?_
        refine k_iconst (pc := 480) (zi_lit rfl) d_Lw_law_480 ?_
        refine k_iadd (pc := 481) d_Lw_law_481 ?_
        obtain ⟨v111, e_v111, hf⟩ := z_bd hf
        refine k_sld (pc := 482) d_Lw_law_482 e_v111 ?_
        obtain ⟨n112, e_n112, hf⟩ := z_bd hf
        obtain ⟨q113, e_q113, hf⟩ := z_bd hf
        refine k_callVi (pc := 483) (as := [(0, v109), (0, v110), (0, v111)]) (rest := [(0, q108.1)]) d_Lw_law_483 cw_Lw_law_81 rfl (Nat.le_of_ble_eq_true rfl) (z_ck_of e_n112) (t_Mo_token e_q113) ?_
        rcases z_it hf with ⟨w114, hf⟩ | ⟨w114, hf⟩
        · refine k_ic_eq_t (pc := 486) (tgt := 643) w114 d_Lw_law_486 rfl ?_
          exact b_Lw_law_643 (f_Lw_law_28 n) ih a1 a2 a3 q113.2 _ hf
        · refine k_ic_eq_f (pc := 486) (tgt := 643) w114 d_Lw_law_486 rfl ?_
          refine k_iconst (pc := 489) (zi_lit rfl) d_Lw_law_489 ?_
          cases hf
          exact k_zret (pc := 490) d_Lw_law_490 rfl (Or.inl rfl)
      rcases z_it hf with ⟨w123, hf⟩ | ⟨w123, hf⟩
      · refine k_tabI (pc := 42) (tgt := 491) (off := 449) d_Lw_law_42 (by rw [w123]; decide) (by rw [w123]; decide) (by rw [w123]; rfl) rfl ?_
        refine k_aload_n (pc := 491) rfl z_m1 d_Lw_law_491 ?_
        refine k_aload_s (pc := 492) rfl z_m0 d_Lw_law_492 ?_
        refine k_iload_n (pc := 493) rfl z_m3 d_Lw_law_493 ?_
        refine k_iconst (pc := 494) (zi_lit rfl) d_Lw_law_494 ?_
        refine k_iadd (pc := 495) d_Lw_law_495 ?_
        obtain ⟨v116, e_v116, hf⟩ := z_bd hf
        refine k_sld (pc := 496) d_Lw_law_496 e_v116 ?_
        obtain ⟨n117, e_n117, hf⟩ := z_bd hf
        obtain ⟨q118, e_q118, hf⟩ := z_bd hf
        refine k_callVi (pc := 497) (as := [(0, v116)]) (rest := []) d_Lw_law_497 cw_Lw_law_82 rfl (Nat.le_of_ble_eq_true rfl) (z_ck_of e_n117) (t_SL_marked e_q118) ?_
        refine k_aload_n (pc := 500) rfl z_m2 d_Lw_law_500 ?_
        refine k_aload_s (pc := 501) rfl z_m0 d_Lw_law_501 ?_
        refine k_iload_n (pc := 502) rfl z_m3 d_Lw_law_502 ?_
        refine k_iconst (pc := 503) (zi_lit rfl) d_Lw_law_503 ?_
        refine k_iadd (pc := 504) d_Lw_law_504 ?_
        obtain ⟨v119, e_v119, hf⟩ := z_bd hf
        refine k_sld (pc := 505) d_Lw_law_505 e_v119 ?_
        obtain ⟨n120, e_n120, hf⟩ := z_bd hf
        obtain ⟨q121, e_q121, hf⟩ := z_bd hf
        refine k_callVi (pc := 506) (as := [(0, v119)]) (rest := [(0, q118.1)]) d_Lw_law_506 cw_Lw_law_86 rfl (Nat.le_of_ble_eq_true rfl) (z_ck_of e_n120) (t_Mo_marked e_q121) ?_
        rcases z_it hf with ⟨w122, hf⟩ | ⟨w122, hf⟩
        · refine k_ic_eq_t (pc := 509) (tgt := 643) w122 d_Lw_law_509 rfl ?_
          exact b_Lw_law_643 (f_Lw_law_28 n) ih a1 a2 a3 q121.2 _ hf
        · refine k_ic_eq_f (pc := 509) (tgt := 643) w122 d_Lw_law_509 rfl ?_
          refine k_iconst (pc := 512) (zi_lit rfl) d_Lw_law_512 ?_
          cases hf
          exact k_zret (pc := 513) d_Lw_law_513 rfl (Or.inl rfl)
      rcases z_it hf with ⟨w133, hf⟩ | ⟨w133, hf⟩
      · refine k_tabI (pc := 42) (tgt := 514) (off := 472) d_Lw_law_42 (by rw [w133]; decide) (by rw [w133]; decide) (by rw [w133]; rfl) rfl ?_
        refine k_aload_n (pc := 514) rfl z_m1 d_Lw_law_514 ?_
        refine k_aload_s (pc := 515) rfl z_m0 d_Lw_law_515 ?_
        refine k_iload_n (pc := 516) rfl z_m3 d_Lw_law_516 ?_
        refine k_iconst (pc := 517) (zi_lit rfl) d_Lw_law_517 ?_
        refine k_iadd (pc := 518) d_Lw_law_518 ?_
        obtain ⟨v124, e_v124, hf⟩ := z_bd hf
        refine k_sld (pc := 519) d_Lw_law_519 e_v124 ?_
        refine k_aload_s (pc := 520) rfl z_m0 d_Lw_law_520 ?_
        refine k_iload_n (pc := 521) rfl z_m3 d_Lw_law_521 ?_
        refine k_iconst (pc := 522) (zi_lit rfl) d_Lw_law_522 ?_
        refine k_iadd (pc := 523) d_Lw_law_523 ?_
        obtain ⟨v125, e_v125, hf⟩ := z_bd hf
        refine k_sld (pc := 524) d_Lw_law_524 e_v125 ?_
        obtain ⟨n126, e_n126, hf⟩ := z_bd hf
        obtain ⟨q127, e_q127, hf⟩ := z_bd hf
        refine k_callVi (pc := 525) (as := [(0, v124), (0, v125)]) (rest := []) d_Lw_law_525 cw_Lw_law_87 rfl (Nat.le_of_ble_eq_true rfl) (z_ck_of e_n126) (t_SL_state e_q127) ?_
        refine k_aload_n (pc := 528) rfl z_m2 d_Lw_law_528 ?_
        refine k_aload_s (pc := 529) rfl z_m0 d_Lw_law_529 ?_
        refine k_iload_n (pc := 530) rfl z_m3 d_Lw_law_530 ?_
        refine k_iconst (pc := 531) (zi_lit rfl) d_Lw_law_531 ?_
        refine k_iadd (pc := 532) d_Lw_law_532 ?_
        obtain ⟨v128, e_v128, hf⟩ := z_bd hf
        refine k_sld (pc := 533) d_Lw_law_533 e_v128 ?_
        refine k_aload_s (pc := 534) rfl z_m0 d_Lw_law_534 ?_
        refine k_iload_n (pc := 535) rfl z_m3 d_Lw_law_535 ?_
        refine k_iconst (pc := 536) (zi_lit rfl) d_Lw_law_536 ?_
        refine k_iadd (pc := 537) d_Lw_law_537 ?_
        obtain ⟨v129, e_v129, hf⟩ := z_bd hf
        refine k_sld (pc := 538) d_Lw_law_538 e_v129 ?_
        obtain ⟨n130, e_n130, hf⟩ := z_bd hf
        obtain ⟨q131, e_q131, hf⟩ := z_bd hf
        refine k_callVi (pc := 539) (as := [(0, v128), (0, v129)]) (rest := [(0, q127.1)]) d_Lw_law_539 cw_Lw_law_90 rfl (Nat.le_of_ble_eq_true rfl) (z_ck_of e_n130) (t_Mo_state e_q131) ?_
        rcases z_it hf with ⟨w132, hf⟩ | ⟨w132, hf⟩
        · refine k_ic_eq_t (pc := 542) (tgt := 643) w132 d_Lw_law_542 rfl ?_
          exact b_Lw_law_643 (f_Lw_law_28 n) ih a1 a2 a3 q131.2 _ hf
        · refine k_ic_eq_f (pc := 542) (tgt := 643) w132 d_Lw_law_542 rfl ?_
          refine k_iconst (pc := 545) (zi_lit rfl) d_Lw_law_545 ?_
          cases hf
          exact k_zret (pc := 546) d_Lw_law_546 rfl (Or.inl rfl)
      rcases z_it hf with ⟨w145, hf⟩ | ⟨w145, hf⟩
      · refine k_tabI (pc := 42) (tgt := 547) (off := 505) d_Lw_law_42 (by rw [w145]; decide) (by rw [w145]; decide) (by rw [w145]; rfl) rfl ?_
        refine k_aload_n (pc := 547) rfl z_m1 d_Lw_law_547 ?_
        refine k_aload_s (pc := 548) rfl z_m0 d_Lw_law_548 ?_
        refine k_iload_n (pc := 549) rfl z_m3 d_Lw_law_549 ?_
        refine k_iconst (pc := 550) (zi_lit rfl) d_Lw_law_550 ?_
        refine k_iadd (pc := 551) d_Lw_law_551 ?_
        obtain ⟨v134, e_v134, hf⟩ := z_bd hf
        refine k_sld (pc := 552) d_Lw_law_552 e_v134 ?_
        refine k_aload_s (pc := 553) rfl z_m0 d_Lw_law_553 ?_
        refine k_iload_n (pc := 554) rfl z_m3 d_Lw_law_554 ?_
        refine k_iconst (pc := 555) (zi_lit rfl) d_Lw_law_555 ?_
        refine k_iadd (pc := 556) d_Lw_law_556 ?_
        obtain ⟨v135, e_v135, hf⟩ := z_bd hf
        refine k_sld (pc := 557) d_Lw_law_557 e_v135 ?_
        refine k_aload_s (pc := 558) rfl z_m0 d_Lw_law_558 ?_
        refine k_iload_n (pc := 559) rfl z_m3 d_Lw_law_559 ?_
        refine k_iconst (pc := 560) (zi_lit rfl) d_Lw_law_560 ?_
        refine k_iadd (pc := 561) d_Lw_law_561 ?_
        obtain ⟨v136, e_v136, hf⟩ := z_bd hf
        refine k_sld (pc := 562) d_Lw_law_562 e_v136 ?_
        obtain ⟨n137, e_n137, hf⟩ := z_bd hf
        obtain ⟨q138, e_q138, hf⟩ := z_bd hf
        refine k_callVi (pc := 563) (as := [(0, v134), (0, v135), (0, v136)]) (rest := []) d_Lw_law_563 cw_Lw_law_91 rfl (Nat.le_of_ble_eq_true rfl) (z_ck_of e_n137) (t_SL_text e_q138) ?_
        refine k_aload_n (pc := 566) rfl z_m2 d_Lw_law_566 ?_
        refine k_aload_s (pc := 567) rfl z_m0 d_Lw_law_567 ?_
        refine k_iload_n (pc := 568) rfl z_m3 d_Lw_law_568 ?_
        refine k_iconst (pc := 569) (zi_lit rfl) d_Lw_law_569 ?_
        refine k_iadd (pc := 570) d_Lw_law_570 ?_
        obtain ⟨v139, e_v139, hf⟩ := z_bd hf
        refine k_sld (pc := 571) d_Lw_law_571 e_v139 ?_
        refine k_aload_s (pc := 572) rfl z_m0 d_Lw_law_572 ?_
        refine k_iload_n (pc := 573) rfl z_m3 d_Lw_law_573 ?_
        refine k_iconst (pc := 574) (zi_lit rfl) d_Lw_law_574 ?_
        refine k_iadd (pc := 575) d_Lw_law_575 ?_
        obtain ⟨v140, e_v140, hf⟩ := z_bd hf
        refine k_sld (pc := 576) d_Lw_law_576 e_v140 ?_
        refine k_aload_s (pc := 577) rfl z_m0 d_Lw_law_577 ?_
        refine k_iload_n (pc := 578) rfl z_m3 d_Lw_law_578 ?_
        refine k_iconst (pc := 579) (zi_lit rfl) d_Lw_law_579 ?_
        refine k_iadd (pc := 580) d_Lw_law_580 ?_
        obtain ⟨v141, e_v141, hf⟩ := z_bd hf
        refine k_sld (pc := 581) d_Lw_law_581 e_v141 ?_
        obtain ⟨n142, e_n142, hf⟩ := z_bd hf
        obtain ⟨q143, e_q143, hf⟩ := z_bd hf
        refine k_callVi (pc := 582) (as := [(0, v139), (0, v140), (0, v141)]) (rest := [(0, q138.1)]) d_Lw_law_582 cw_Lw_law_94 rfl (Nat.le_of_ble_eq_true rfl) (z_ck_of e_n142) (t_Mo_text e_q143) ?_
        rcases z_it hf with ⟨w144, hf⟩ | ⟨w144, hf⟩
        · refine k_ic_eq_t (pc := 585) (tgt := 643) w144 d_Lw_law_585 rfl ?_
          exact b_Lw_law_643 (f_Lw_law_28 n) ih a1 a2 a3 q143.2 _ hf
        · refine k_ic_eq_f (pc := 585) (tgt := 643) w144 d_Lw_law_585 rfl ?_
          refine k_iconst (pc := 588) (zi_lit rfl) d_Lw_law_588 ?_
          cases hf
          exact k_zret (pc := 589) d_Lw_law_589 rfl (Or.inl rfl)
      rcases z_it hf with ⟨w159, hf⟩ | ⟨w159, hf⟩
      · refine k_tabI (pc := 42) (tgt := 590) (off := 548) d_Lw_law_42 (by rw [w159]; decide) (by rw [w159]; decide) (by rw [w159]; rfl) rfl ?_
        refine k_aload_n (pc := 590) rfl z_m1 d_Lw_law_590 ?_
        refine k_aload_s (pc := 591) rfl z_m0 d_Lw_law_591 ?_
        refine k_iload_n (pc := 592) rfl z_m3 d_Lw_law_592 ?_
        refine k_iconst (pc := 593) (zi_lit rfl) d_Lw_law_593 ?_
        refine k_iadd (pc := 594) d_Lw_law_594 ?_
        obtain ⟨v146, e_v146, hf⟩ := z_bd hf
        refine k_sld (pc := 595) d_Lw_law_595 e_v146 ?_
        refine k_aload_s (pc := 596) rfl z_m0 d_Lw_law_596 ?_
        refine k_iload_n (pc := 597) rfl z_m3 d_Lw_law_597 ?_
        refine k_iconst (pc := 598) (zi_lit rfl) d_Lw_law_598 ?_
        refine k_iadd (pc := 599) d_Lw_law_599 ?_
        obtain ⟨v147, e_v147, hf⟩ := z_bd hf
        refine k_sld (pc := 600) d_Lw_law_600 e_v147 ?_
        refine k_aload_s (pc := 601) rfl z_m0 d_Lw_law_601 ?_
        refine k_iload_n (pc := 602) rfl z_m3 d_Lw_law_602 ?_
        refine k_iconst (pc := 603) (zi_lit rfl) d_Lw_law_603 ?_
        refine k_iadd (pc := 604) d_Lw_law_604 ?_
        obtain ⟨v148, e_v148, hf⟩ := z_bd hf
        refine k_sld (pc := 605) d_Lw_law_605 e_v148 ?_
        refine k_aload_s (pc := 606) rfl z_m0 d_Lw_law_606 ?_
        refine k_iload_n (pc := 607) rfl z_m3 d_Lw_law_607 ?_
        refine k_iconst (pc := 608) (zi_lit rfl) d_Lw_law_608 ?_
        refine k_iadd (pc := 609) d_Lw_law_609 ?_
        obtain ⟨v149, e_v149, hf⟩ := z_bd hf
        refine k_sld (pc := 610) d_Lw_law_610 e_v149 ?_
        obtain ⟨n150, e_n150, hf⟩ := z_bd hf
        obtain ⟨q151, e_q151, hf⟩ := z_bd hf
        refine k_callVi (pc := 611) (as := [(0, v146), (0, v147), (0, v148), (0, v149)]) (rest := []) d_Lw_law_611 cw_Lw_law_95 rfl (Nat.le_of_ble_eq_true rfl) (z_ck_of e_n150) (t_SL_find e_q151) ?_
        refine k_aload_n (pc := 614) rfl z_m2 d_Lw_law_614 ?_
        refine k_aload_s (pc := 615) rfl z_m0 d_Lw_law_615 ?_
        refine k_iload_n (pc := 616) rfl z_m3 d_Lw_law_616 ?_
        refine k_iconst (pc := 617) (zi_lit rfl) d_Lw_law_617 ?_
        refine k_iadd (pc := 618) d_Lw_law_618 ?_
        obtain ⟨v152, e_v152, hf⟩ := z_bd hf
        refine k_sld (pc := 619) d_Lw_law_619 e_v152 ?_
        refine k_aload_s (pc := 620) rfl z_m0 d_Lw_law_620 ?_
        refine k_iload_n (pc := 621) rfl z_m3 d_Lw_law_621 ?_
        refine k_iconst (pc := 622) (zi_lit rfl) d_Lw_law_622 ?_
        refine k_iadd (pc := 623) d_Lw_law_623 ?_
        obtain ⟨v153, e_v153, hf⟩ := z_bd hf
        refine k_sld (pc := 624) d_Lw_law_624 e_v153 ?_
        refine k_aload_s (pc := 625) rfl z_m0 d_Lw_law_625 ?_
        refine k_iload_n (pc := 626) rfl z_m3 d_Lw_law_626 ?_
        refine k_iconst (pc := 627) (zi_lit rfl) d_Lw_law_627 ?_
        refine k_iadd (pc := 628) d_Lw_law_628 ?_
        obtain ⟨v154, e_v154, hf⟩ := z_bd hf
        refine k_sld (pc := 629) d_Lw_law_629 e_v154 ?_
        refine k_aload_s (pc := 630) rfl z_m0 d_Lw_law_630 ?_
        refine k_iload_n (pc := 631) rfl z_m3 d_Lw_law_631 ?_
        refine k_iconst (pc := 632) (zi_lit rfl) d_Lw_law_632 ?_
        refine k_iadd (pc := 633) d_Lw_law_633 ?_
        obtain ⟨v155, e_v155, hf⟩ := z_bd hf
        refine k_sld (pc := 634) d_Lw_law_634 e_v155 ?_
        obtain ⟨n156, e_n156, hf⟩ := z_bd hf
        obtain ⟨q157, e_q157, hf⟩ := z_bd hf
        refine k_callVi (pc := 635) (as := [(0, v152), (0, v153), (0, v154), (0, v155)]) (rest := [(0, q151.1)]) d_Lw_law_635 cw_Lw_law_99 rfl (Nat.le_of_ble_eq_true rfl) (z_ck_of e_n156) (t_Mo_find e_q157) ?_
        rcases z_it hf with ⟨w158, hf⟩ | ⟨w158, hf⟩
        · refine k_ic_eq_t (pc := 638) (tgt := 643) w158 d_Lw_law_638 rfl ?_
          exact b_Lw_law_643 (f_Lw_law_28 n) ih a1 a2 a3 q157.2 _ hf
        · refine k_ic_eq_f (pc := 638) (tgt := 643) w158 d_Lw_law_638 rfl ?_
          refine k_iconst (pc := 641) (zi_lit rfl) d_Lw_law_641 ?_
          cases hf
          exact k_zret (pc := 642) d_Lw_law_642 rfl (Or.inl rfl)
      refine k_tabO (pc := 42) (tgt := 643) d_Lw_law_42 (by omega) rfl ?_
      exact b_Lw_law_643 (f_Lw_law_28 n) ih a1 a2 a3 h _ hf
theorem b_Lw_law_0 (h : zH) (r : Int × zH) (hf : f_Lw_law h = some r) : zK m_Lw_law 0 [(0, (3, 0))] [] h (some (0, r.1), r.2) := by
  unfold f_Lw_law at hf
  refine k_new (pc := 0) d_Lw_law_0 nw_Lw_7 ?_
  refine k_dup (pc := 3) (Or.inr rfl) d_Lw_law_3 ?_
  refine k_aload_s (pc := 4) rfl z_m0 d_Lw_law_4 ?_
  refine k_iconst (pc := 5) (zi_lit rfl) d_Lw_law_5 ?_
  obtain ⟨q161, e_q161, hf⟩ := z_bd hf
  refine k_callSi (pc := 6) (as := [(3, 0), (0, 0)]) (rest := [(2, ((h.1.length : Nat) : Int)), (2, ((h.1.length : Nat) : Int))]) d_Lw_law_6 cw_Lw_law_9 rfl (Nat.le_of_ble_eq_true rfl) (t_Lw_cell e_q161) ?_
  obtain ⟨h162, e_h162, hf⟩ := z_bd hf
  refine k_callIv (pc := 9) (as := [(0, q161.1)]) (rest := [(2, ((h.1.length : Nat) : Int))]) d_Lw_law_9 cw_Lw_law_15 rfl (Nat.le_of_ble_eq_true rfl) (t_SL_init e_h162) ?_
  refine k_astore_n (pc := 12) (L' := [(1, (2, ((h.1.length : Nat) : Int))), (0, (3, 0))]) rfl d_Lw_law_12 (Nat.le_of_ble_eq_true rfl) rfl ?_
  refine k_new (pc := 13) d_Lw_law_13 nw_Lw_18 ?_
  refine k_dup (pc := 16) (Or.inr rfl) d_Lw_law_16 ?_
  refine k_aload_s (pc := 17) rfl z_m1 d_Lw_law_17 ?_
  refine k_iconst (pc := 18) (zi_lit rfl) d_Lw_law_18 ?_
  obtain ⟨q163, e_q163, hf⟩ := z_bd hf
  refine k_callSi (pc := 19) (as := [(3, 0), (0, 0)]) (rest := [(2, ((h162.1.length : Nat) : Int)), (2, ((h162.1.length : Nat) : Int))]) d_Lw_law_19 cw_Lw_law_9 rfl (Nat.le_of_ble_eq_true rfl) (t_Lw_cell e_q163) ?_
  obtain ⟨h164, e_h164, hf⟩ := z_bd hf
  refine k_callIv (pc := 22) (as := [(0, q163.1)]) (rest := [(2, ((h162.1.length : Nat) : Int))]) d_Lw_law_22 cw_Lw_law_20 rfl (Nat.le_of_ble_eq_true rfl) (t_Mo_init e_h164) ?_
  refine k_astore_n (pc := 25) (L' := [(2, (2, ((h162.1.length : Nat) : Int))), (1, (2, ((h.1.length : Nat) : Int))), (0, (3, 0))]) rfl d_Lw_law_25 (Nat.le_of_ble_eq_true rfl) rfl ?_
  refine k_iconst (pc := 26) (zi_lit rfl) d_Lw_law_26 ?_
  refine k_istore_n (pc := 27) (L' := [(3, (0, 1)), (2, (2, ((h162.1.length : Nat) : Int))), (1, (2, ((h.1.length : Nat) : Int))), (0, (3, 0))]) rfl d_Lw_law_27 (Nat.le_of_ble_eq_true rfl) rfl ?_
  refine k_sub [3, 2, 1, 0] rfl ?_
  exact b_Lw_law_28 100000 h.1.length h162.1.length 1 h164 _ hf
theorem t_Lw_law {h : zH} {r : Int × zH} (hf : f_Lw_law h = some r) : zMt m_Lw_law [(3, 0)] h (some (0, r.1), r.2) := zMt.of (by decide) (Nat.le_of_ble_eq_true rfl) (b_Lw_law_0 h r hf)
