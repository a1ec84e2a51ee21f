/-! The bytecode comes to what the functions answer; printed by wip/gen/gen.py -/
theorem b_Pt_repeat_0 (a0 : Nat) (a1 : Int) (a2 : Int) (a3 : Int) (h : zH) (r : zH) (hf : f_Pt_repeat a0 a1 a2 a3 h = some r) : zK m_Pt_repeat 0 [(0, (2, ((a0 : Nat) : Int))), (1, (0, a1)), (2, (0, a2)), (3, (0, a3))] [] h (none, r) := by
  unfold f_Pt_repeat at hf
  refine k_aload_n (pc := 0) rfl z_m0 d_Pt_repeat_0 ?_
  obtain ⟨v1, e_v1, hf⟩ := z_bd hf
  refine k_getI (pc := 1) d_Pt_repeat_1 fd_Pt_28 rfl e_v1 ?_
  refine k_iload_n (pc := 4) rfl z_m1 d_Pt_repeat_4 ?_
  refine k_isub (pc := 5) d_Pt_repeat_5 ?_
  refine k_istore (pc := 6) (L' := [(4, (0, zw (v1 - a1))), (0, (2, ((a0 : Nat) : Int))), (1, (0, a1)), (2, (0, a2)), (3, (0, a3))]) d_Pt_repeat_6 (Nat.le_of_ble_eq_true rfl) rfl ?_
  refine k_iload_n (pc := 8) rfl z_m3 d_Pt_repeat_8 ?_
  refine k_bipush (pc := 9) (zi_lit rfl) (by decide) d_Pt_repeat_9 ?_
  rcases z_it hf with ⟨w12, hf⟩ | ⟨w12, hf⟩
  · refine k_ic_ne_f (pc := 11) (tgt := 30) w12 d_Pt_repeat_11 rfl ?_
    refine k_aload_n (pc := 14) rfl z_m1 d_Pt_repeat_14 ?_
    refine k_aload_n (pc := 15) rfl z_m1 d_Pt_repeat_15 ?_
    obtain ⟨v9, e_v9, hf⟩ := z_bd hf
    refine k_getI (pc := 16) d_Pt_repeat_16 fd_Pt_28 rfl e_v9 ?_
    refine k_iload (pc := 19) z_m0 d_Pt_repeat_19 ?_
    refine k_ineg (pc := 21) d_Pt_repeat_21 ?_
    refine k_iconst (pc := 22) (zi_lit rfl) d_Pt_repeat_22 ?_
    refine k_iload_n (pc := 23) rfl z_m4 d_Pt_repeat_23 ?_
    obtain ⟨n10, e_n10, hf⟩ := z_bd hf
    obtain ⟨h11, e_h11, hf⟩ := z_bd hf
    refine k_callVv (pc := 24) (as := [(0, v9), (0, zw (-(zw (v1 - a1)))), (0, 1), (0, a3)]) (rest := []) d_Pt_repeat_24 cw_Pt_repeat_43 rfl (Nat.le_of_ble_eq_true rfl) (z_ck_of e_n10) (t_Pt_insertSplit e_h11) ?_
    refine k_goto (pc := 27) (tgt := 72) d_Pt_repeat_27 rfl ?_
    cases hf
    exact k_ret (pc := 72) d_Pt_repeat_72 rfl
  · refine k_ic_ne_t (pc := 11) (tgt := 30) w12 d_Pt_repeat_11 rfl ?_
    refine k_iload_n (pc := 30) rfl z_m3 d_Pt_repeat_30 ?_
    refine k_bipush (pc := 31) (zi_lit rfl) (by decide) d_Pt_repeat_31 ?_
    rcases z_it hf with ⟨w8, hf⟩ | ⟨w8, hf⟩
    · refine k_ic_ne_f (pc := 33) (tgt := 50) w8 d_Pt_repeat_33 rfl ?_
      refine k_aload_n (pc := 36) rfl z_m1 d_Pt_repeat_36 ?_
      refine k_iload_n (pc := 37) rfl z_m2 d_Pt_repeat_37 ?_
      refine k_iconst (pc := 38) (zi_lit rfl) d_Pt_repeat_38 ?_
      refine k_iload (pc := 39) z_m0 d_Pt_repeat_39 ?_
      refine k_iconst (pc := 41) (zi_lit rfl) d_Pt_repeat_41 ?_
      refine k_iadd (pc := 42) d_Pt_repeat_42 ?_
      refine k_iload_n (pc := 43) rfl z_m4 d_Pt_repeat_43 ?_
      obtain ⟨n6, e_n6, hf⟩ := z_bd hf
      obtain ⟨h7, e_h7, hf⟩ := z_bd hf
      refine k_callVv (pc := 44) (as := [(0, a1), (0, 1), (0, zw ((zw (v1 - a1)) + 1)), (0, a3)]) (rest := []) d_Pt_repeat_44 cw_Pt_repeat_43 rfl (Nat.le_of_ble_eq_true rfl) (z_ck_of e_n6) (t_Pt_insertSplit e_h7) ?_
      refine k_goto (pc := 47) (tgt := 72) d_Pt_repeat_47 rfl ?_
      cases hf
      exact k_ret (pc := 72) d_Pt_repeat_72 rfl
    · refine k_ic_ne_t (pc := 33) (tgt := 50) w8 d_Pt_repeat_33 rfl ?_
      refine k_aload_n (pc := 50) rfl z_m1 d_Pt_repeat_50 ?_
      refine k_iload_n (pc := 51) rfl z_m2 d_Pt_repeat_51 ?_
      refine k_iconst (pc := 52) (zi_lit rfl) d_Pt_repeat_52 ?_
      refine k_iload (pc := 53) z_m0 d_Pt_repeat_53 ?_
      refine k_iconst (pc := 55) (zi_lit rfl) d_Pt_repeat_55 ?_
      refine k_iadd (pc := 56) d_Pt_repeat_56 ?_
      refine k_iload_n (pc := 57) rfl z_m4 d_Pt_repeat_57 ?_
      obtain ⟨n2, e_n2, hf⟩ := z_bd hf
      obtain ⟨h3, e_h3, hf⟩ := z_bd hf
      refine k_callVv (pc := 58) (as := [(0, a1), (0, 1), (0, zw ((zw (v1 - a1)) + 2)), (0, a3)]) (rest := []) d_Pt_repeat_58 cw_Pt_repeat_43 rfl (Nat.le_of_ble_eq_true rfl) (z_ck_of e_n2) (t_Pt_insertSplit e_h3) ?_
      refine k_aload_n (pc := 61) rfl z_m1 d_Pt_repeat_61 ?_
      refine k_bipush (pc := 62) (zi_lit rfl) (by decide) d_Pt_repeat_62 ?_
      refine k_iload (pc := 64) z_m0 d_Pt_repeat_64 ?_
      refine k_iconst (pc := 66) (zi_lit rfl) d_Pt_repeat_66 ?_
      refine k_iadd (pc := 67) d_Pt_repeat_67 ?_
      refine k_ineg (pc := 68) d_Pt_repeat_68 ?_
      obtain ⟨n4, e_n4, hf⟩ := z_bd hf
      obtain ⟨h5, e_h5, hf⟩ := z_bd hf
      refine k_callVv (pc := 69) (as := [(0, 7), (0, zw (-(zw ((zw (v1 - a1)) + 1))))]) (rest := []) d_Pt_repeat_69 cw_Pt_repeat_39 rfl (Nat.le_of_ble_eq_true rfl) (z_ck_of e_n4) (t_Pt_append e_h5) ?_
      cases hf
      exact k_ret (pc := 72) d_Pt_repeat_72 rfl
theorem t_Pt_repeat {a0 : Nat} {a1 : Int} {a2 : Int} {a3 : Int} {h : zH} {r : zH} (hf : f_Pt_repeat a0 a1 a2 a3 h = some r) : zMt m_Pt_repeat [(2, ((a0 : Nat) : Int)), (0, a1), (0, a2), (0, a3)] h (none, r) := zMt.of (by decide) (Nat.le_of_ble_eq_true rfl) (b_Pt_repeat_0 a0 a1 a2 a3 h r hf)
theorem b_Pr_readQuantifier_172 (a0 : Nat) (a4 : Int) (h : zH) (r : zH) (hf : f_Pr_readQuantifier_172 a0 a4 h = some r) : zK m_Pr_readQuantifier 172 [(0, (2, ((a0 : Nat) : Int))), (4, (0, a4))] [] h (none, r) := by
  unfold f_Pr_readQuantifier_172 at hf
  refine k_aload_n (pc := 172) rfl z_m0 d_Pr_readQuantifier_172 ?_
  obtain ⟨v1, e_v1, hf⟩ := z_bd hf
  refine k_getR (pc := 173) d_Pr_readQuantifier_173 fd_Pr_28 rfl e_v1 ?_
  refine k_aload_n (pc := 176) rfl z_m0 d_Pr_readQuantifier_176 ?_
  obtain ⟨v2, e_v2, hf⟩ := z_bd hf
  refine k_getI (pc := 177) d_Pr_readQuantifier_177 fd_Pr_62 rfl e_v2 ?_
  refine k_aload_n (pc := 180) rfl z_m0 d_Pr_readQuantifier_180 ?_
  obtain ⟨v3, e_v3, hf⟩ := z_bd hf
  refine k_getR (pc := 181) d_Pr_readQuantifier_181 fd_Pr_28 rfl e_v3 ?_
  refine k_aload_n (pc := 184) rfl z_m0 d_Pr_readQuantifier_184 ?_
  obtain ⟨v4, e_v4, hf⟩ := z_bd hf
  refine k_getI (pc := 185) d_Pr_readQuantifier_185 fd_Pr_62 rfl e_v4 ?_
  obtain ⟨v5, e_v5, hf⟩ := z_bd hf
  refine k_zald (pc := 188) d_Pr_readQuantifier_188 e_v5 ?_
  rcases z_it hf with ⟨w10, hf⟩ | ⟨w10, hf⟩
  · refine k_if_eq_t (pc := 189) (tgt := 201) w10 d_Pr_readQuantifier_189 rfl ?_
    refine k_iconst (pc := 201) (zi_lit rfl) d_Pr_readQuantifier_201 ?_
    obtain ⟨h6, e_h6, hf⟩ := z_bd hf
    refine k_zast (pc := 202) d_Pr_readQuantifier_202 e_h6 ?_
    cases hf
    exact k_ret (pc := 203) d_Pr_readQuantifier_203 rfl
  · refine k_if_eq_f (pc := 189) (tgt := 201) w10 d_Pr_readQuantifier_189 rfl ?_
    refine k_iload (pc := 192) z_m1 d_Pr_readQuantifier_192 ?_
    rcases z_it hf with ⟨w9, hf⟩ | ⟨w9, hf⟩
    · refine k_if_eq_t (pc := 194) (tgt := 201) w9 d_Pr_readQuantifier_194 rfl ?_
      refine k_iconst (pc := 201) (zi_lit rfl) d_Pr_readQuantifier_201 ?_
      obtain ⟨h7, e_h7, hf⟩ := z_bd hf
      refine k_zast (pc := 202) d_Pr_readQuantifier_202 e_h7 ?_
      cases hf
      exact k_ret (pc := 203) d_Pr_readQuantifier_203 rfl
    · refine k_if_eq_f (pc := 194) (tgt := 201) w9 d_Pr_readQuantifier_194 rfl ?_
      refine k_iconst (pc := 197) (zi_lit rfl) d_Pr_readQuantifier_197 ?_
      refine k_goto (pc := 198) (tgt := 202) d_Pr_readQuantifier_198 rfl ?_
      obtain ⟨h8, e_h8, hf⟩ := z_bd hf
      refine k_zast (pc := 202) d_Pr_readQuantifier_202 e_h8 ?_
      cases hf
      exact k_ret (pc := 203) d_Pr_readQuantifier_203 rfl
theorem b_Pr_readQuantifier_170 (a0 : Nat) (s0 : Int) (h : zH) (r : zH) (hf : f_Pr_readQuantifier_170 a0 s0 h = some r) : zK m_Pr_readQuantifier 170 [(0, (2, ((a0 : Nat) : Int)))] [(0, s0)] h (none, r) := by
  unfold f_Pr_readQuantifier_170 at hf
  refine k_istore (pc := 170) (L' := [(4, (0, s0)), (0, (2, ((a0 : Nat) : Int)))]) d_Pr_readQuantifier_170 (Nat.le_of_ble_eq_true rfl) rfl ?_
  refine k_sub [1, 0] rfl ?_
  exact b_Pr_readQuantifier_172 a0 s0 h _ hf
theorem b_Pr_readQuantifier_146 (a0 : Nat) (a1 : Int) (a3 : Nat) (a5 : Int) (a6 : Int) (s0 : Nat) (s1 : Int) (h : zH) (r : zH) (hf : f_Pr_readQuantifier_146 a0 a1 a3 a5 a6 s0 s1 h = some r) : zK m_Pr_readQuantifier 146 [(0, (2, ((a0 : Nat) : Int))), (1, (0, a1)), (3, (2, ((a3 : Nat) : Int))), (5, (0, a5)), (6, (0, a6))] [(0, s1), (2, ((s0 : Nat) : Int))] h (none, r) := by
  unfold f_Pr_readQuantifier_146 at hf
  obtain ⟨h11, e_h11, hf⟩ := z_bd hf
  refine k_putZ (pc := 146) d_Pr_readQuantifier_146 fd_Pr_56 (fun q => by cases q) rfl e_h11 ?_
  refine k_aload_n (pc := 149) rfl z_m2 d_Pr_readQuantifier_149 ?_
  refine k_iload_n (pc := 150) rfl z_m1 d_Pr_readQuantifier_150 ?_
  refine k_iload (pc := 151) z_m3 d_Pr_readQuantifier_151 ?_
  refine k_iload (pc := 153) z_m4 d_Pr_readQuantifier_153 ?_
  obtain ⟨n12, e_n12, hf⟩ := z_bd hf
  obtain ⟨h13, e_h13, hf⟩ := z_bd hf
  refine k_callVv (pc := 155) (as := [(0, a1), (0, a5), (0, a6)]) (rest := []) d_Pr_readQuantifier_155 cw_Pr_readQuantifier_134 rfl (Nat.le_of_ble_eq_true rfl) (z_ck_of e_n12) (t_Pt_repeat e_h13) ?_
  refine k_iload (pc := 158) z_m3 d_Pr_readQuantifier_158 ?_
  refine k_bipush (pc := 160) (zi_lit rfl) (by decide) d_Pr_readQuantifier_160 ?_
  rcases z_it hf with ⟨w14, hf⟩ | ⟨w14, hf⟩
  · refine k_ic_eq_t (pc := 162) (tgt := 169) w14 d_Pr_readQuantifier_162 rfl ?_
    refine k_iconst (pc := 169) (zi_lit rfl) d_Pr_readQuantifier_169 ?_
    refine k_sub [0] rfl ?_
    exact b_Pr_readQuantifier_170 a0 0 h13 _ hf
  · refine k_ic_eq_f (pc := 162) (tgt := 169) w14 d_Pr_readQuantifier_162 rfl ?_
    refine k_iconst (pc := 165) (zi_lit rfl) d_Pr_readQuantifier_165 ?_
    refine k_goto (pc := 166) (tgt := 170) d_Pr_readQuantifier_166 rfl ?_
    refine k_sub [0] rfl ?_
    exact b_Pr_readQuantifier_170 a0 1 h13 _ hf
theorem b_Pr_readQuantifier_141 (a0 : Nat) (a1 : Int) (a3 : Nat) (a5 : Int) (a6 : Int) (s0 : Nat) (h : zH) (r : zH) (hf : f_Pr_readQuantifier_141 a0 a1 a3 a5 a6 s0 h = some r) : zK m_Pr_readQuantifier 141 [(0, (2, ((a0 : Nat) : Int))), (1, (0, a1)), (3, (2, ((a3 : Nat) : Int))), (5, (0, a5)), (6, (0, a6))] [(2, ((s0 : Nat) : Int))] h (none, r) := by
  unfold f_Pr_readQuantifier_141 at hf
  refine k_iconst (pc := 141) (zi_lit rfl) d_Pr_readQuantifier_141 ?_
  refine k_goto (pc := 142) (tgt := 146) d_Pr_readQuantifier_142 rfl ?_
  exact b_Pr_readQuantifier_146 a0 a1 a3 a5 a6 s0 1 h _ hf
theorem b_Pr_readQuantifier_145 (a0 : Nat) (a1 : Int) (a3 : Nat) (a5 : Int) (a6 : Int) (s0 : Nat) (h : zH) (r : zH) (hf : f_Pr_readQuantifier_145 a0 a1 a3 a5 a6 s0 h = some r) : zK m_Pr_readQuantifier 145 [(0, (2, ((a0 : Nat) : Int))), (1, (0, a1)), (3, (2, ((a3 : Nat) : Int))), (5, (0, a5)), (6, (0, a6))] [(2, ((s0 : Nat) : Int))] h (none, r) := by
  unfold f_Pr_readQuantifier_145 at hf
  refine k_iconst (pc := 145) (zi_lit rfl) d_Pr_readQuantifier_145 ?_
  exact b_Pr_readQuantifier_146 a0 a1 a3 a5 a6 s0 0 h _ hf
theorem b_Pr_readQuantifier_115 (a0 : Nat) (a1 : Int) (a2 : Int) (a3 : Nat) (a5 : Int) (a6 : Int) (s0 : Nat) (s1 : Int) (s2 : Int) (h : zH) (r : zH) (hf : f_Pr_readQuantifier_115 a0 a1 a2 a3 a5 a6 s0 s1 s2 h = some r) : zK m_Pr_readQuantifier 115 [(0, (2, ((a0 : Nat) : Int))), (1, (0, a1)), (2, (0, a2)), (3, (2, ((a3 : Nat) : Int))), (5, (0, a5)), (6, (0, a6))] [(0, s2), (0, s1), (2, ((s0 : Nat) : Int))] h (none, r) := by
  unfold f_Pr_readQuantifier_115 at hf
  refine k_iadd (pc := 115) d_Pr_readQuantifier_115 ?_
  obtain ⟨h15, e_h15, hf⟩ := z_bd hf
  refine k_putI (pc := 116) d_Pr_readQuantifier_116 fd_Pr_45 (fun q => by cases q) rfl e_h15 ?_
  refine k_aload_n (pc := 119) rfl z_m0 d_Pr_readQuantifier_119 ?_
  refine k_aload_n (pc := 120) rfl z_m3 d_Pr_readQuantifier_120 ?_
  obtain ⟨v16, e_v16, hf⟩ := z_bd hf
  refine k_getR (pc := 121) d_Pr_readQuantifier_121 fd_Pr_131 rfl e_v16 ?_
  refine k_iload_n (pc := 124) rfl z_m1 d_Pr_readQuantifier_124 ?_
  obtain ⟨v17, e_v17, hf⟩ := z_bd hf
  refine k_iald (pc := 125) d_Pr_readQuantifier_125 e_v17 ?_
  refine k_iconst (pc := 126) (zi_lit rfl) d_Pr_readQuantifier_126 ?_
  rcases z_it hf with ⟨w20, hf⟩ | ⟨w20, hf⟩
  · refine k_ic_eq_t (pc := 127) (tgt := 141) w20 d_Pr_readQuantifier_127 rfl ?_
    refine k_sub [0, 1, 3, 4, 5] rfl ?_
    exact b_Pr_readQuantifier_141 a0 a1 a3 a5 a6 a0 h15 _ hf
  · refine k_ic_eq_f (pc := 127) (tgt := 141) w20 d_Pr_readQuantifier_127 rfl ?_
    refine k_iload_n (pc := 130) rfl z_m2 d_Pr_readQuantifier_130 ?_
    rcases z_it hf with ⟨w19, hf⟩ | ⟨w19, hf⟩
    · refine k_if_eq_t (pc := 131) (tgt := 145) w19 d_Pr_readQuantifier_131 rfl ?_
      refine k_sub [0, 1, 3, 4, 5] rfl ?_
      exact b_Pr_readQuantifier_145 a0 a1 a3 a5 a6 a0 h15 _ hf
    · refine k_if_eq_f (pc := 131) (tgt := 145) w19 d_Pr_readQuantifier_131 rfl ?_
      refine k_iload (pc := 134) z_m4 d_Pr_readQuantifier_134 ?_
      refine k_bipush (pc := 136) (zi_lit rfl) (by decide) d_Pr_readQuantifier_136 ?_
      rcases z_it hf with ⟨w18, hf⟩ | ⟨w18, hf⟩
      · refine k_ic_eq_t (pc := 138) (tgt := 145) w18 d_Pr_readQuantifier_138 rfl ?_
        refine k_sub [0, 1, 3, 4, 5] rfl ?_
        exact b_Pr_readQuantifier_145 a0 a1 a3 a5 a6 a0 h15 _ hf
      · refine k_ic_eq_f (pc := 138) (tgt := 145) w18 d_Pr_readQuantifier_138 rfl ?_
        refine k_sub [0, 1, 3, 4, 5] rfl ?_
        exact b_Pr_readQuantifier_141 a0 a1 a3 a5 a6 a0 h15 _ hf
theorem b_Pr_readQuantifier_98 (a0 : Nat) (a1 : Int) (a2 : Int) (a3 : Nat) (a5 : Int) (s0 : Int) (h : zH) (r : zH) (hf : f_Pr_readQuantifier_98 a0 a1 a2 a3 a5 s0 h = some r) : zK m_Pr_readQuantifier 98 [(0, (2, ((a0 : Nat) : Int))), (1, (0, a1)), (2, (0, a2)), (3, (2, ((a3 : Nat) : Int))), (5, (0, a5))] [(0, s0)] h (none, r) := by
  unfold f_Pr_readQuantifier_98 at hf
  refine k_istore (pc := 98) (L' := [(6, (0, s0)), (0, (2, ((a0 : Nat) : Int))), (1, (0, a1)), (2, (0, a2)), (3, (2, ((a3 : Nat) : Int))), (5, (0, a5))]) d_Pr_readQuantifier_98 (Nat.le_of_ble_eq_true rfl) rfl ?_
  refine k_aload_n (pc := 100) rfl z_m1 d_Pr_readQuantifier_100 ?_
  refine k_dup (pc := 101) (Or.inr rfl) d_Pr_readQuantifier_101 ?_
  obtain ⟨v21, e_v21, hf⟩ := z_bd hf
  refine k_getI (pc := 102) d_Pr_readQuantifier_102 fd_Pr_45 rfl e_v21 ?_
  refine k_iload (pc := 105) z_m0 d_Pr_readQuantifier_105 ?_
  rcases z_it hf with ⟨w22, hf⟩ | ⟨w22, hf⟩
  · refine k_if_eq_t (pc := 107) (tgt := 114) w22 d_Pr_readQuantifier_107 rfl ?_
    refine k_iconst (pc := 114) (zi_lit rfl) d_Pr_readQuantifier_114 ?_
    refine k_sub [1, 2, 3, 4, 5, 0] rfl ?_
    exact b_Pr_readQuantifier_115 a0 a1 a2 a3 a5 s0 a0 v21 0 h _ hf
  · refine k_if_eq_f (pc := 107) (tgt := 114) w22 d_Pr_readQuantifier_107 rfl ?_
    refine k_iconst (pc := 110) (zi_lit rfl) d_Pr_readQuantifier_110 ?_
    refine k_goto (pc := 111) (tgt := 115) d_Pr_readQuantifier_111 rfl ?_
    refine k_sub [1, 2, 3, 4, 5, 0] rfl ?_
    exact b_Pr_readQuantifier_115 a0 a1 a2 a3 a5 s0 a0 v21 1 h _ hf
theorem b_Pr_readQuantifier_97 (a0 : Nat) (a1 : Int) (a2 : Int) (a3 : Nat) (a5 : Int) (h : zH) (r : zH) (hf : f_Pr_readQuantifier_97 a0 a1 a2 a3 a5 h = some r) : zK m_Pr_readQuantifier 97 [(0, (2, ((a0 : Nat) : Int))), (1, (0, a1)), (2, (0, a2)), (3, (2, ((a3 : Nat) : Int))), (5, (0, a5))] [] h (none, r) := by
  unfold f_Pr_readQuantifier_97 at hf
  refine k_iconst (pc := 97) (zi_lit rfl) d_Pr_readQuantifier_97 ?_
  exact b_Pr_readQuantifier_98 a0 a1 a2 a3 a5 0 h _ hf
theorem b_Pr_readQuantifier_58 (a0 : Nat) (a1 : Int) (a2 : Int) (a3 : Nat) (a5 : Int) (h : zH) (r : zH) (hf : f_Pr_readQuantifier_58 a0 a1 a2 a3 a5 h = some r) : zK m_Pr_readQuantifier 58 [(0, (2, ((a0 : Nat) : Int))), (1, (0, a1)), (2, (0, a2)), (3, (2, ((a3 : Nat) : Int))), (5, (0, a5))] [] h (none, r) := by
  unfold f_Pr_readQuantifier_58 at hf
  refine k_aload_n (pc := 58) rfl z_m0 d_Pr_readQuantifier_58 ?_
  refine k_dup (pc := 59) (Or.inr rfl) d_Pr_readQuantifier_59 ?_
  obtain ⟨v23, e_v23, hf⟩ := z_bd hf
  refine k_getI (pc := 60) d_Pr_readQuantifier_60 fd_Pr_45 rfl e_v23 ?_
  refine k_iconst (pc := 63) (zi_lit rfl) d_Pr_readQuantifier_63 ?_
  refine k_iadd (pc := 64) d_Pr_readQuantifier_64 ?_
  obtain ⟨h24, e_h24, hf⟩ := z_bd hf
  refine k_putI (pc := 65) d_Pr_readQuantifier_65 fd_Pr_45 (fun q => by cases q) rfl e_h24 ?_
  refine k_aload_n (pc := 68) rfl z_m0 d_Pr_readQuantifier_68 ?_
  obtain ⟨v25, e_v25, hf⟩ := z_bd hf
  refine k_getI (pc := 69) d_Pr_readQuantifier_69 fd_Pr_45 rfl e_v25 ?_
  refine k_aload_n (pc := 72) rfl z_m0 d_Pr_readQuantifier_72 ?_
  obtain ⟨v26, e_v26, hf⟩ := z_bd hf
  refine k_getI (pc := 73) d_Pr_readQuantifier_73 fd_Pr_35 rfl e_v26 ?_
  rcases z_it hf with ⟨w31, hf⟩ | ⟨w31, hf⟩
  · refine k_ic_ge_t (pc := 76) (tgt := 97) w31 d_Pr_readQuantifier_76 rfl ?_
    exact b_Pr_readQuantifier_97 a0 a1 a2 a3 a5 h24 _ hf
  · refine k_ic_ge_f (pc := 76) (tgt := 97) w31 d_Pr_readQuantifier_76 rfl ?_
    refine k_aload_n (pc := 79) rfl z_m0 d_Pr_readQuantifier_79 ?_
    obtain ⟨v27, e_v27, hf⟩ := z_bd hf
    refine k_getR (pc := 80) d_Pr_readQuantifier_80 fd_Pr_9 rfl e_v27 ?_
    refine k_aload_n (pc := 83) rfl z_m0 d_Pr_readQuantifier_83 ?_
    obtain ⟨v28, e_v28, hf⟩ := z_bd hf
    refine k_getI (pc := 84) d_Pr_readQuantifier_84 fd_Pr_45 rfl e_v28 ?_
    obtain ⟨v29, e_v29, hf⟩ := z_bd hf
    refine k_cald (pc := 87) d_Pr_readQuantifier_87 e_v29 ?_
    refine k_bipush (pc := 88) (zi_lit rfl) (by decide) d_Pr_readQuantifier_88 ?_
    rcases z_it hf with ⟨w30, hf⟩ | ⟨w30, hf⟩
    · refine k_ic_ne_f (pc := 90) (tgt := 97) w30 d_Pr_readQuantifier_90 rfl ?_
      refine k_iconst (pc := 93) (zi_lit rfl) d_Pr_readQuantifier_93 ?_
      refine k_goto (pc := 94) (tgt := 98) d_Pr_readQuantifier_94 rfl ?_
      exact b_Pr_readQuantifier_98 a0 a1 a2 a3 a5 1 h24 _ hf
    · refine k_ic_ne_t (pc := 90) (tgt := 97) w30 d_Pr_readQuantifier_90 rfl ?_
      exact b_Pr_readQuantifier_97 a0 a1 a2 a3 a5 h24 _ hf
theorem b_Pr_readQuantifier_28 (a0 : Nat) (a1 : Int) (a2 : Int) (a3 : Nat) (a4 : Int) (s0 : Int) (h : zH) (r : zH) (hf : f_Pr_readQuantifier_28 a0 a1 a2 a3 a4 s0 h = some r) : zK m_Pr_readQuantifier 28 [(0, (2, ((a0 : Nat) : Int))), (1, (0, a1)), (2, (0, a2)), (3, (2, ((a3 : Nat) : Int))), (4, (0, a4))] [(0, s0)] h (none, r) := by
  unfold f_Pr_readQuantifier_28 at hf
  refine k_istore (pc := 28) (L' := [(5, (0, s0)), (0, (2, ((a0 : Nat) : Int))), (1, (0, a1)), (2, (0, a2)), (3, (2, ((a3 : Nat) : Int))), (4, (0, a4))]) d_Pr_readQuantifier_28 (Nat.le_of_ble_eq_true rfl) rfl ?_
  refine k_aload_n (pc := 30) rfl z_m1 d_Pr_readQuantifier_30 ?_
  obtain ⟨v32, e_v32, hf⟩ := z_bd hf
  refine k_getI (pc := 31) d_Pr_readQuantifier_31 fd_Pr_56 rfl e_v32 ?_
  rcases z_it hf with ⟨w36, hf⟩ | ⟨w36, hf⟩
  · refine k_if_ne_f (pc := 34) (tgt := 172) w36 d_Pr_readQuantifier_34 rfl ?_
    refine k_iload (pc := 37) z_m0 d_Pr_readQuantifier_37 ?_
    refine k_bipush (pc := 39) (zi_lit rfl) (by decide) d_Pr_readQuantifier_39 ?_
    rcases z_it hf with ⟨w35, hf⟩ | ⟨w35, hf⟩
    · refine k_ic_eq_t (pc := 41) (tgt := 58) w35 d_Pr_readQuantifier_41 rfl ?_
      refine k_sub [1, 2, 3, 4, 0] rfl ?_
      exact b_Pr_readQuantifier_58 a0 a1 a2 a3 s0 h _ hf
    · refine k_ic_eq_f (pc := 41) (tgt := 58) w35 d_Pr_readQuantifier_41 rfl ?_
      refine k_iload (pc := 44) z_m0 d_Pr_readQuantifier_44 ?_
      refine k_bipush (pc := 46) (zi_lit rfl) (by decide) d_Pr_readQuantifier_46 ?_
      rcases z_it hf with ⟨w34, hf⟩ | ⟨w34, hf⟩
      · refine k_ic_eq_t (pc := 48) (tgt := 58) w34 d_Pr_readQuantifier_48 rfl ?_
        refine k_sub [1, 2, 3, 4, 0] rfl ?_
        exact b_Pr_readQuantifier_58 a0 a1 a2 a3 s0 h _ hf
      · refine k_ic_eq_f (pc := 48) (tgt := 58) w34 d_Pr_readQuantifier_48 rfl ?_
        refine k_iload (pc := 51) z_m0 d_Pr_readQuantifier_51 ?_
        refine k_bipush (pc := 53) (zi_lit rfl) (by decide) d_Pr_readQuantifier_53 ?_
        rcases z_it hf with ⟨w33, hf⟩ | ⟨w33, hf⟩
        · refine k_ic_ne_f (pc := 55) (tgt := 172) w33 d_Pr_readQuantifier_55 rfl ?_
          refine k_sub [1, 2, 3, 4, 0] rfl ?_
          exact b_Pr_readQuantifier_58 a0 a1 a2 a3 s0 h _ hf
        · refine k_ic_ne_t (pc := 55) (tgt := 172) w33 d_Pr_readQuantifier_55 rfl ?_
          refine k_sub [1, 5] rfl ?_
          exact b_Pr_readQuantifier_172 a0 a4 h _ hf
  · refine k_if_ne_t (pc := 34) (tgt := 172) w36 d_Pr_readQuantifier_34 rfl ?_
    refine k_sub [1, 5] rfl ?_
    exact b_Pr_readQuantifier_172 a0 a4 h _ hf
theorem b_Pr_readQuantifier_0 (a0 : Nat) (a1 : Int) (a2 : Int) (a3 : Nat) (h : zH) (r : zH) (hf : f_Pr_readQuantifier a0 a1 a2 a3 h = some r) : zK m_Pr_readQuantifier 0 [(0, (2, ((a0 : Nat) : Int))), (1, (0, a1)), (2, (0, a2)), (3, (2, ((a3 : Nat) : Int)))] [] h (none, r) := by
  unfold f_Pr_readQuantifier at hf
  refine k_iload_n (pc := 0) rfl z_m2 d_Pr_readQuantifier_0 ?_
  refine k_istore (pc := 1) (L' := [(4, (0, a2)), (0, (2, ((a0 : Nat) : Int))), (1, (0, a1)), (2, (0, a2)), (3, (2, ((a3 : Nat) : Int)))]) d_Pr_readQuantifier_1 (Nat.le_of_ble_eq_true rfl) rfl ?_
  refine k_aload_n (pc := 3) rfl z_m1 d_Pr_readQuantifier_3 ?_
  obtain ⟨v37, e_v37, hf⟩ := z_bd hf
  refine k_getI (pc := 4) d_Pr_readQuantifier_4 fd_Pr_45 rfl e_v37 ?_
  refine k_aload_n (pc := 7) rfl z_m1 d_Pr_readQuantifier_7 ?_
  obtain ⟨v38, e_v38, hf⟩ := z_bd hf
  refine k_getI (pc := 8) d_Pr_readQuantifier_8 fd_Pr_35 rfl e_v38 ?_
  rcases z_it hf with ⟨w42, hf⟩ | ⟨w42, hf⟩
  · refine k_ic_ge_t (pc := 11) (tgt := 26) w42 d_Pr_readQuantifier_11 rfl ?_
    refine k_bipush (pc := 26) (zi_lit rfl) (by decide) d_Pr_readQuantifier_26 ?_
    refine k_sub [1, 2, 3, 4, 0] rfl ?_
    exact b_Pr_readQuantifier_28 a0 a1 a2 a3 a2 32 h _ hf
  · refine k_ic_ge_f (pc := 11) (tgt := 26) w42 d_Pr_readQuantifier_11 rfl ?_
    refine k_aload_n (pc := 14) rfl z_m1 d_Pr_readQuantifier_14 ?_
    obtain ⟨v39, e_v39, hf⟩ := z_bd hf
    refine k_getR (pc := 15) d_Pr_readQuantifier_15 fd_Pr_9 rfl e_v39 ?_
    refine k_aload_n (pc := 18) rfl z_m1 d_Pr_readQuantifier_18 ?_
    obtain ⟨v40, e_v40, hf⟩ := z_bd hf
    refine k_getI (pc := 19) d_Pr_readQuantifier_19 fd_Pr_45 rfl e_v40 ?_
    obtain ⟨v41, e_v41, hf⟩ := z_bd hf
    refine k_cald (pc := 22) d_Pr_readQuantifier_22 e_v41 ?_
    refine k_goto (pc := 23) (tgt := 28) d_Pr_readQuantifier_23 rfl ?_
    refine k_sub [1, 2, 3, 4, 0] rfl ?_
    exact b_Pr_readQuantifier_28 a0 a1 a2 a3 a2 v41 h _ hf
theorem t_Pr_readQuantifier {a0 : Nat} {a1 : Int} {a2 : Int} {a3 : Nat} {h : zH} {r : zH} (hf : f_Pr_readQuantifier a0 a1 a2 a3 h = some r) : zMt m_Pr_readQuantifier [(2, ((a0 : Nat) : Int)), (0, a1), (0, a2), (2, ((a3 : Nat) : Int))] h (none, r) := zMt.of (by decide) (Nat.le_of_ble_eq_true rfl) (b_Pr_readQuantifier_0 a0 a1 a2 a3 h r hf)
theorem b_Pr_closeGroup_0 (a0 : Nat) (a1 : Nat) (h : zH) (r : zH) (hf : f_Pr_closeGroup a0 a1 h = some r) : zK m_Pr_closeGroup 0 [(0, (2, ((a0 : Nat) : Int))), (1, (2, ((a1 : Nat) : Int)))] [] h (none, r) := by
  unfold f_Pr_closeGroup at hf
  refine k_aload_n (pc := 0) rfl z_m0 d_Pr_closeGroup_0 ?_
  obtain ⟨v1, e_v1, hf⟩ := z_bd hf
  refine k_getI (pc := 1) d_Pr_closeGroup_1 fd_Pr_62 rfl e_v1 ?_
  rcases z_it hf with ⟨w17, hf⟩ | ⟨w17, hf⟩
  · refine k_if_ne_f (pc := 4) (tgt := 13) w17 d_Pr_closeGroup_4 rfl ?_
    refine k_aload_n (pc := 7) rfl z_m0 d_Pr_closeGroup_7 ?_
    refine k_iconst (pc := 8) (zi_lit rfl) d_Pr_closeGroup_8 ?_
    obtain ⟨h16, e_h16, hf⟩ := z_bd hf
    refine k_putZ (pc := 9) d_Pr_closeGroup_9 fd_Pr_56 (fun q => by cases q) rfl e_h16 ?_
    cases hf
    exact k_ret (pc := 12) d_Pr_closeGroup_12 rfl
  · refine k_if_ne_t (pc := 4) (tgt := 13) w17 d_Pr_closeGroup_4 rfl ?_
    refine k_aload_n (pc := 13) rfl z_m0 d_Pr_closeGroup_13 ?_
    refine k_aload_n (pc := 14) rfl z_m1 d_Pr_closeGroup_14 ?_
    obtain ⟨n2, e_n2, hf⟩ := z_bd hf
    obtain ⟨q3, e_q3, hf⟩ := z_bd hf
    refine k_callVi (pc := 15) (as := [(2, ((a1 : Nat) : Int))]) (rest := []) d_Pr_closeGroup_15 cw_Pr_closeGroup_78 rfl (Nat.le_of_ble_eq_true rfl) (z_ck_of e_n2) (t_Pr_closeLevel e_q3) ?_
    refine k_istore_n (pc := 18) (L' := [(2, (0, q3.1)), (0, (2, ((a0 : Nat) : Int))), (1, (2, ((a1 : Nat) : Int)))]) rfl d_Pr_closeGroup_18 (Nat.le_of_ble_eq_true rfl) rfl ?_
    refine k_aload_n (pc := 19) rfl z_m2 d_Pr_closeGroup_19 ?_
    refine k_bipush (pc := 20) (zi_lit rfl) (by decide) d_Pr_closeGroup_20 ?_
    refine k_iconst (pc := 22) (zi_lit rfl) d_Pr_closeGroup_22 ?_
    refine k_aload_n (pc := 23) rfl z_m1 d_Pr_closeGroup_23 ?_
    obtain ⟨v4, e_v4, hf⟩ := z_bd hf
    refine k_getR (pc := 24) d_Pr_closeGroup_24 fd_Pr_15 rfl e_v4 ?_
    refine k_aload_n (pc := 27) rfl z_m1 d_Pr_closeGroup_27 ?_
    obtain ⟨v5, e_v5, hf⟩ := z_bd hf
    refine k_getI (pc := 28) d_Pr_closeGroup_28 fd_Pr_62 rfl e_v5 ?_
    obtain ⟨v6, e_v6, hf⟩ := z_bd hf
    refine k_iald (pc := 31) d_Pr_closeGroup_31 e_v6 ?_
    refine k_imul (pc := 32) d_Pr_closeGroup_32 ?_
    refine k_iconst (pc := 33) (zi_lit rfl) d_Pr_closeGroup_33 ?_
    refine k_isub (pc := 34) d_Pr_closeGroup_34 ?_
    obtain ⟨n7, e_n7, hf⟩ := z_bd hf
    obtain ⟨h8, e_h8, hf⟩ := z_bd hf
    refine k_callVv (pc := 35) (as := [(0, 8), (0, zw ((zw (2 * v6)) - 1))]) (rest := []) d_Pr_closeGroup_35 cw_Pr_closeGroup_82 rfl (Nat.le_of_ble_eq_true rfl) (z_ck_of e_n7) (t_Pt_append e_h8) ?_
    refine k_aload_n (pc := 38) rfl z_m1 d_Pr_closeGroup_38 ?_
    obtain ⟨v9, e_v9, hf⟩ := z_bd hf
    refine k_getR (pc := 39) d_Pr_closeGroup_39 fd_Pr_19 rfl e_v9 ?_
    refine k_aload_n (pc := 42) rfl z_m1 d_Pr_closeGroup_42 ?_
    obtain ⟨v10, e_v10, hf⟩ := z_bd hf
    refine k_getI (pc := 43) d_Pr_closeGroup_43 fd_Pr_62 rfl e_v10 ?_
    obtain ⟨v11, e_v11, hf⟩ := z_bd hf
    refine k_iald (pc := 46) d_Pr_closeGroup_46 e_v11 ?_
    refine k_iconst (pc := 47) (zi_lit rfl) d_Pr_closeGroup_47 ?_
    refine k_isub (pc := 48) d_Pr_closeGroup_48 ?_
    refine k_istore_n (pc := 49) (L' := [(3, (0, zw (v11 - 1))), (2, (0, q3.1)), (0, (2, ((a0 : Nat) : Int))), (1, (2, ((a1 : Nat) : Int)))]) rfl d_Pr_closeGroup_49 (Nat.le_of_ble_eq_true rfl) rfl ?_
    refine k_aload_n (pc := 50) rfl z_m2 d_Pr_closeGroup_50 ?_
    refine k_dup (pc := 51) (Or.inr rfl) d_Pr_closeGroup_51 ?_
    obtain ⟨v12, e_v12, hf⟩ := z_bd hf
    refine k_getI (pc := 52) d_Pr_closeGroup_52 fd_Pr_62 rfl e_v12 ?_
    refine k_iconst (pc := 55) (zi_lit rfl) d_Pr_closeGroup_55 ?_
    refine k_isub (pc := 56) d_Pr_closeGroup_56 ?_
    obtain ⟨h13, e_h13, hf⟩ := z_bd hf
    refine k_putI (pc := 57) d_Pr_closeGroup_57 fd_Pr_62 (fun q => by cases q) rfl e_h13 ?_
    refine k_aload_n (pc := 60) rfl z_m2 d_Pr_closeGroup_60 ?_
    refine k_iload_n (pc := 61) rfl z_m0 d_Pr_closeGroup_61 ?_
    refine k_iload_n (pc := 62) rfl z_m1 d_Pr_closeGroup_62 ?_
    refine k_aload_n (pc := 63) rfl z_m3 d_Pr_closeGroup_63 ?_
    obtain ⟨n14, e_n14, hf⟩ := z_bd hf
    obtain ⟨h15, e_h15, hf⟩ := z_bd hf
    refine k_callVv (pc := 64) (as := [(0, zw (v11 - 1)), (0, q3.1), (2, ((a1 : Nat) : Int))]) (rest := []) d_Pr_closeGroup_64 cw_Pr_closeGroup_100 rfl (Nat.le_of_ble_eq_true rfl) (z_ck_of e_n14) (t_Pr_readQuantifier e_h15) ?_
    cases hf
    exact k_ret (pc := 67) d_Pr_closeGroup_67 rfl
theorem t_Pr_closeGroup {a0 : Nat} {a1 : Nat} {h : zH} {r : zH} (hf : f_Pr_closeGroup a0 a1 h = some r) : zMt m_Pr_closeGroup [(2, ((a0 : Nat) : Int)), (2, ((a1 : Nat) : Int))] h (none, r) := zMt.of (by decide) (Nat.le_of_ble_eq_true rfl) (b_Pr_closeGroup_0 a0 a1 h r hf)
theorem b_Pr_readItem_183 (c123 : Nat → Int → Int → zH → Option (zH)) (k123 : ∀ (x0 : Nat) (x3 : Int) (x4 : Int) (g : zH) (r : zH), c123 x0 x3 x4 g = some r → zK m_Pr_readItem 123 [(0, (2, ((x0 : Nat) : Int))), (3, (0, x3)), (4, (0, x4))] [] g (none, r)) (a0 : Nat) (a3 : Int) (a4 : Int) (s0 : Nat) (s1 : Int) (s2 : Int) (h : zH) (r : zH) (hf : f_Pr_readItem_183 c123 a0 a3 a4 s0 s1 s2 h = some r) : zK m_Pr_readItem 183 [(0, (2, ((a0 : Nat) : Int))), (3, (0, a3)), (4, (0, a4))] [(1, s2), (1, s1), (2, ((s0 : Nat) : Int))] h (none, r) := by
  unfold f_Pr_readItem_183 at hf
  refine k_lor (pc := 183) d_Pr_readItem_183 ?_
  obtain ⟨h1, e_h1, hf⟩ := z_bd hf
  refine k_putL (pc := 184) d_Pr_readItem_184 fd_Pr_119 (fun q => by cases q) rfl e_h1 ?_
  refine k_iinc (pc := 187) (L' := [(4, (0, zw (a4 + 1))), (0, (2, ((a0 : Nat) : Int))), (3, (0, a3))]) z_m2 d_Pr_readItem_187 (Nat.le_of_ble_eq_true rfl) rfl ?_
  refine k_goto (pc := 190) (tgt := 123) d_Pr_readItem_190 rfl ?_
  refine k_sub [1, 2, 0] rfl ?_
  exact k123 a0 a3 (zw (a4 + 1)) h1 _ hf
theorem b_Pr_readItem_156 (c123 : Nat → Int → Int → zH → Option (zH)) (k123 : ∀ (x0 : Nat) (x3 : Int) (x4 : Int) (g : zH) (r : zH), c123 x0 x3 x4 g = some r → zK m_Pr_readItem 123 [(0, (2, ((x0 : Nat) : Int))), (3, (0, x3)), (4, (0, x4))] [] g (none, r)) (a0 : Nat) (a3 : Int) (a4 : Int) (a5 : Int) (s0 : Nat) (s1 : Int) (s2 : Int) (h : zH) (r : zH) (hf : f_Pr_readItem_156 c123 a0 a3 a4 a5 s0 s1 s2 h = some r) : zK m_Pr_readItem 156 [(0, (2, ((a0 : Nat) : Int))), (3, (0, a3)), (4, (0, a4)), (5, (0, a5))] [(1, s2), (1, s1), (2, ((s0 : Nat) : Int))] h (none, r) := by
  unfold f_Pr_readItem_156 at hf
  refine k_lor (pc := 156) d_Pr_readItem_156 ?_
  obtain ⟨h2, e_h2, hf⟩ := z_bd hf
  refine k_putL (pc := 157) d_Pr_readItem_157 fd_Pr_115 (fun q => by cases q) rfl e_h2 ?_
  refine k_aload_n (pc := 160) rfl z_m0 d_Pr_readItem_160 ?_
  refine k_dup (pc := 161) (Or.inr rfl) d_Pr_readItem_161 ?_
  obtain ⟨v3, e_v3, hf⟩ := z_bd hf
  refine k_getL (pc := 162) d_Pr_readItem_162 fd_Pr_119 rfl e_v3 ?_
  refine k_iload (pc := 165) z_m3 d_Pr_readItem_165 ?_
  refine k_bipush (pc := 167) (zi_lit rfl) (by decide) d_Pr_readItem_167 ?_
  rcases z_it hf with ⟨w4, hf⟩ | ⟨w4, hf⟩
  · refine k_ic_ge_t (pc := 169) (tgt := 176) w4 d_Pr_readItem_169 rfl ?_
    refine k_lconst (pc := 176) (x := 1) (zi_lit64 rfl) (by decide) d_Pr_readItem_176 ?_
    refine k_iload (pc := 177) z_m3 d_Pr_readItem_177 ?_
    refine k_bipush (pc := 179) (zi_lit rfl) (by decide) d_Pr_readItem_179 ?_
    refine k_isub (pc := 181) d_Pr_readItem_181 ?_
    refine k_lshl (pc := 182) d_Pr_readItem_182 ?_
    refine k_sub [0, 1, 2] rfl ?_
    exact b_Pr_readItem_183 c123 k123 a0 a3 a4 a0 v3 (z_lshl 1 (zw (a5 - 64))) h2 _ hf
  · refine k_ic_ge_f (pc := 169) (tgt := 176) w4 d_Pr_readItem_169 rfl ?_
    refine k_lconst (pc := 172) (x := 0) (zi_lit64 rfl) (by decide) d_Pr_readItem_172 ?_
    refine k_goto (pc := 173) (tgt := 183) d_Pr_readItem_173 rfl ?_
    refine k_sub [0, 1, 2] rfl ?_
    exact b_Pr_readItem_183 c123 k123 a0 a3 a4 a0 v3 0 h2 _ hf
theorem b_Pr_readItem_123 : ∀ (n : Nat) (a0 : Nat) (a3 : Int) (a4 : Int) (h : zH) (r : zH), f_Pr_readItem_123 n a0 a3 a4 h = some r → zK m_Pr_readItem 123 [(0, (2, ((a0 : Nat) : Int))), (3, (0, a3)), (4, (0, a4))] [] h (none, r) := by
  intro n
  induction n with
  | zero =>
    intro a0 a3 a4 h r hf
    cases hf
  | succ n ih =>
    intro a0 a3 a4 h r hf
    unfold f_Pr_readItem_123 at hf
    refine k_iload (pc := 123) z_m2 d_Pr_readItem_123 ?_
    refine k_iload_n (pc := 125) rfl z_m1 d_Pr_readItem_125 ?_
    rcases z_it hf with ⟨w7, hf⟩ | ⟨w7, hf⟩
    · refine k_ic_gt_t (pc := 126) (tgt := 193) w7 d_Pr_readItem_126 rfl ?_
      cases hf
      exact k_ret (pc := 193) d_Pr_readItem_193 rfl
    · refine k_ic_gt_f (pc := 126) (tgt := 193) w7 d_Pr_readItem_126 rfl ?_
      refine k_iload (pc := 129) z_m2 d_Pr_readItem_129 ?_
      refine k_bipush (pc := 131) (zi_lit rfl) (by decide) d_Pr_readItem_131 ?_
      refine k_isub (pc := 133) d_Pr_readItem_133 ?_
      refine k_istore (pc := 134) (L' := [(5, (0, zw (a4 - 32))), (0, (2, ((a0 : Nat) : Int))), (3, (0, a3)), (4, (0, a4))]) d_Pr_readItem_134 (Nat.le_of_ble_eq_true rfl) rfl ?_
      refine k_aload_n (pc := 136) rfl z_m1 d_Pr_readItem_136 ?_
      refine k_dup (pc := 137) (Or.inr rfl) d_Pr_readItem_137 ?_
      obtain ⟨v5, e_v5, hf⟩ := z_bd hf
      refine k_getL (pc := 138) d_Pr_readItem_138 fd_Pr_115 rfl e_v5 ?_
      refine k_iload (pc := 141) z_m0 d_Pr_readItem_141 ?_
      refine k_bipush (pc := 143) (zi_lit rfl) (by decide) d_Pr_readItem_143 ?_
      rcases z_it hf with ⟨w6, hf⟩ | ⟨w6, hf⟩
      · refine k_ic_ge_t (pc := 145) (tgt := 155) w6 d_Pr_readItem_145 rfl ?_
        refine k_lconst (pc := 155) (x := 0) (zi_lit64 rfl) (by decide) d_Pr_readItem_155 ?_
        refine k_sub [1, 2, 3, 0] rfl ?_
        exact b_Pr_readItem_156 (f_Pr_readItem_123 n) ih a0 a3 a4 (zw (a4 - 32)) a0 v5 0 h _ hf
      · refine k_ic_ge_f (pc := 145) (tgt := 155) w6 d_Pr_readItem_145 rfl ?_
        refine k_lconst (pc := 148) (x := 1) (zi_lit64 rfl) (by decide) d_Pr_readItem_148 ?_
        refine k_iload (pc := 149) z_m0 d_Pr_readItem_149 ?_
        refine k_lshl (pc := 151) d_Pr_readItem_151 ?_
        refine k_goto (pc := 152) (tgt := 156) d_Pr_readItem_152 rfl ?_
        refine k_sub [1, 2, 3, 0] rfl ?_
        exact b_Pr_readItem_156 (f_Pr_readItem_123 n) ih a0 a3 a4 (zw (a4 - 32)) a0 v5 (z_lshl 1 (zw (a4 - 32))) h _ hf
theorem b_Pr_readItem_117 (a0 : Nat) (a1 : Int) (a3 : Int) (s0 : Nat) (s1 : Int) (h : zH) (r : zH) (hf : f_Pr_readItem_117 a0 a1 a3 s0 s1 h = some r) : zK m_Pr_readItem 117 [(0, (2, ((a0 : Nat) : Int))), (1, (0, a1)), (3, (0, a3))] [(0, s1), (2, ((s0 : Nat) : Int))] h (none, r) := by
  unfold f_Pr_readItem_117 at hf
  obtain ⟨h8, e_h8, hf⟩ := z_bd hf
  refine k_putZ (pc := 117) d_Pr_readItem_117 fd_Pr_56 (fun q => by cases q) rfl e_h8 ?_
  refine k_iload_n (pc := 120) rfl z_m1 d_Pr_readItem_120 ?_
  refine k_istore (pc := 121) (L' := [(4, (0, a1)), (0, (2, ((a0 : Nat) : Int))), (1, (0, a1)), (3, (0, a3))]) d_Pr_readItem_121 (Nat.le_of_ble_eq_true rfl) rfl ?_
  refine k_sub [1, 3, 0] rfl ?_
  exact b_Pr_readItem_123 100000 a0 a3 a1 h8 _ hf
theorem b_Pr_readItem_112 (a0 : Nat) (a1 : Int) (a3 : Int) (s0 : Nat) (h : zH) (r : zH) (hf : f_Pr_readItem_112 a0 a1 a3 s0 h = some r) : zK m_Pr_readItem 112 [(0, (2, ((a0 : Nat) : Int))), (1, (0, a1)), (3, (0, a3))] [(2, ((s0 : Nat) : Int))] h (none, r) := by
  unfold f_Pr_readItem_112 at hf
  refine k_iconst (pc := 112) (zi_lit rfl) d_Pr_readItem_112 ?_
  refine k_goto (pc := 113) (tgt := 117) d_Pr_readItem_113 rfl ?_
  exact b_Pr_readItem_117 a0 a1 a3 s0 1 h _ hf
theorem b_Pr_readItem_95 (a0 : Nat) (a1 : Int) (a3 : Int) (s0 : Nat) (s1 : Int) (s2 : Int) (h : zH) (r : zH) (hf : f_Pr_readItem_95 a0 a1 a3 s0 s1 s2 h = some r) : zK m_Pr_readItem 95 [(0, (2, ((a0 : Nat) : Int))), (1, (0, a1)), (3, (0, a3))] [(0, s2), (0, s1), (2, ((s0 : Nat) : Int))] h (none, r) := by
  unfold f_Pr_readItem_95 at hf
  refine k_iadd (pc := 95) d_Pr_readItem_95 ?_
  obtain ⟨h9, e_h9, hf⟩ := z_bd hf
  refine k_putI (pc := 96) d_Pr_readItem_96 fd_Pr_45 (fun q => by cases q) rfl e_h9 ?_
  refine k_aload_n (pc := 99) rfl z_m0 d_Pr_readItem_99 ?_
  refine k_aload_n (pc := 100) rfl z_m0 d_Pr_readItem_100 ?_
  obtain ⟨v10, e_v10, hf⟩ := z_bd hf
  refine k_getI (pc := 101) d_Pr_readItem_101 fd_Pr_56 rfl e_v10 ?_
  rcases z_it hf with ⟨w12, hf⟩ | ⟨w12, hf⟩
  · refine k_if_ne_f (pc := 104) (tgt := 112) w12 d_Pr_readItem_104 rfl ?_
    refine k_iload_n (pc := 107) rfl z_m1 d_Pr_readItem_107 ?_
    refine k_iload_n (pc := 108) rfl z_m2 d_Pr_readItem_108 ?_
    rcases z_it hf with ⟨w11, hf⟩ | ⟨w11, hf⟩
    · refine k_ic_le_t (pc := 109) (tgt := 116) w11 d_Pr_readItem_109 rfl ?_
      refine k_iconst (pc := 116) (zi_lit rfl) d_Pr_readItem_116 ?_
      exact b_Pr_readItem_117 a0 a1 a3 a0 0 h9 _ hf
    · refine k_ic_le_f (pc := 109) (tgt := 116) w11 d_Pr_readItem_109 rfl ?_
      exact b_Pr_readItem_112 a0 a1 a3 a0 h9 _ hf
  · refine k_if_ne_t (pc := 104) (tgt := 112) w12 d_Pr_readItem_104 rfl ?_
    exact b_Pr_readItem_112 a0 a1 a3 a0 h9 _ hf
theorem b_Pr_readItem_80 (a0 : Nat) (a1 : Int) (a2 : Int) (s0 : Int) (h : zH) (r : zH) (hf : f_Pr_readItem_80 a0 a1 a2 s0 h = some r) : zK m_Pr_readItem 80 [(0, (2, ((a0 : Nat) : Int))), (1, (0, a1)), (2, (0, a2))] [(0, s0)] h (none, r) := by
  unfold f_Pr_readItem_80 at hf
  refine k_istore_n (pc := 80) (L' := [(3, (0, s0)), (0, (2, ((a0 : Nat) : Int))), (1, (0, a1)), (2, (0, a2))]) rfl d_Pr_readItem_80 (Nat.le_of_ble_eq_true rfl) rfl ?_
  refine k_aload_n (pc := 81) rfl z_m1 d_Pr_readItem_81 ?_
  refine k_dup (pc := 82) (Or.inr rfl) d_Pr_readItem_82 ?_
  obtain ⟨v13, e_v13, hf⟩ := z_bd hf
  refine k_getI (pc := 83) d_Pr_readItem_83 fd_Pr_45 rfl e_v13 ?_
  refine k_iload_n (pc := 86) rfl z_m3 d_Pr_readItem_86 ?_
  rcases z_it hf with ⟨w14, hf⟩ | ⟨w14, hf⟩
  · refine k_if_eq_t (pc := 87) (tgt := 94) w14 d_Pr_readItem_87 rfl ?_
    refine k_iconst (pc := 94) (zi_lit rfl) d_Pr_readItem_94 ?_
    refine k_sub [1, 2, 0] rfl ?_
    exact b_Pr_readItem_95 a0 a1 s0 a0 v13 1 h _ hf
  · refine k_if_eq_f (pc := 87) (tgt := 94) w14 d_Pr_readItem_87 rfl ?_
    refine k_iconst (pc := 90) (zi_lit rfl) d_Pr_readItem_90 ?_
    refine k_goto (pc := 91) (tgt := 95) d_Pr_readItem_91 rfl ?_
    refine k_sub [1, 2, 0] rfl ?_
    exact b_Pr_readItem_95 a0 a1 s0 a0 v13 3 h _ hf
theorem b_Pr_readItem_60 (a0 : Nat) (a1 : Int) (s0 : Int) (h : zH) (r : zH) (hf : f_Pr_readItem_60 a0 a1 s0 h = some r) : zK m_Pr_readItem 60 [(0, (2, ((a0 : Nat) : Int))), (1, (0, a1))] [(0, s0)] h (none, r) := by
  unfold f_Pr_readItem_60 at hf
  refine k_istore_n (pc := 60) (L' := [(2, (0, s0)), (0, (2, ((a0 : Nat) : Int))), (1, (0, a1))]) rfl d_Pr_readItem_60 (Nat.le_of_ble_eq_true rfl) rfl ?_
  refine k_iload_n (pc := 61) rfl z_m0 d_Pr_readItem_61 ?_
  rcases z_it hf with ⟨w18, hf⟩ | ⟨w18, hf⟩
  · refine k_if_eq_t (pc := 62) (tgt := 79) w18 d_Pr_readItem_62 rfl ?_
    refine k_iload_n (pc := 79) rfl z_m2 d_Pr_readItem_79 ?_
    refine k_sub [1, 2, 0] rfl ?_
    exact b_Pr_readItem_80 a0 a1 s0 a1 h _ hf
  · refine k_if_eq_f (pc := 62) (tgt := 79) w18 d_Pr_readItem_62 rfl ?_
    refine k_aload_n (pc := 65) rfl z_m1 d_Pr_readItem_65 ?_
    obtain ⟨v15, e_v15, hf⟩ := z_bd hf
    refine k_getR (pc := 66) d_Pr_readItem_66 fd_Pr_9 rfl e_v15 ?_
    refine k_aload_n (pc := 69) rfl z_m1 d_Pr_readItem_69 ?_
    obtain ⟨v16, e_v16, hf⟩ := z_bd hf
    refine k_getI (pc := 70) d_Pr_readItem_70 fd_Pr_45 rfl e_v16 ?_
    refine k_iconst (pc := 73) (zi_lit rfl) d_Pr_readItem_73 ?_
    refine k_iadd (pc := 74) d_Pr_readItem_74 ?_
    obtain ⟨v17, e_v17, hf⟩ := z_bd hf
    refine k_cald (pc := 75) d_Pr_readItem_75 e_v17 ?_
    refine k_goto (pc := 76) (tgt := 80) d_Pr_readItem_76 rfl ?_
    refine k_sub [1, 2, 0] rfl ?_
    exact b_Pr_readItem_80 a0 a1 s0 v17 h _ hf
theorem b_Pr_readItem_59 (a0 : Nat) (a1 : Int) (h : zH) (r : zH) (hf : f_Pr_readItem_59 a0 a1 h = some r) : zK m_Pr_readItem 59 [(0, (2, ((a0 : Nat) : Int))), (1, (0, a1))] [] h (none, r) := by
  unfold f_Pr_readItem_59 at hf
  refine k_iconst (pc := 59) (zi_lit rfl) d_Pr_readItem_59 ?_
  exact b_Pr_readItem_60 a0 a1 0 h _ hf
theorem b_Pr_readItem_0 (a0 : Nat) (h : zH) (r : zH) (hf : f_Pr_readItem a0 h = some r) : zK m_Pr_readItem 0 [(0, (2, ((a0 : Nat) : Int)))] [] h (none, r) := by
  unfold f_Pr_readItem at hf
  refine k_aload_n (pc := 0) rfl z_m0 d_Pr_readItem_0 ?_
  obtain ⟨v19, e_v19, hf⟩ := z_bd hf
  refine k_getR (pc := 1) d_Pr_readItem_1 fd_Pr_9 rfl e_v19 ?_
  refine k_aload_n (pc := 4) rfl z_m0 d_Pr_readItem_4 ?_
  obtain ⟨v20, e_v20, hf⟩ := z_bd hf
  refine k_getI (pc := 5) d_Pr_readItem_5 fd_Pr_45 rfl e_v20 ?_
  obtain ⟨v21, e_v21, hf⟩ := z_bd hf
  refine k_cald (pc := 8) d_Pr_readItem_8 e_v21 ?_
  refine k_istore_n (pc := 9) (L' := [(1, (0, v21)), (0, (2, ((a0 : Nat) : Int)))]) rfl d_Pr_readItem_9 (Nat.le_of_ble_eq_true rfl) rfl ?_
  refine k_aload_n (pc := 10) rfl z_m1 d_Pr_readItem_10 ?_
  obtain ⟨v22, e_v22, hf⟩ := z_bd hf
  refine k_getI (pc := 11) d_Pr_readItem_11 fd_Pr_45 rfl e_v22 ?_
  refine k_iconst (pc := 14) (zi_lit rfl) d_Pr_readItem_14 ?_
  refine k_iadd (pc := 15) d_Pr_readItem_15 ?_
  refine k_aload_n (pc := 16) rfl z_m1 d_Pr_readItem_16 ?_
  obtain ⟨v23, e_v23, hf⟩ := z_bd hf
  refine k_getI (pc := 17) d_Pr_readItem_17 fd_Pr_35 rfl e_v23 ?_
  rcases z_it hf with ⟨w32, hf⟩ | ⟨w32, hf⟩
  · refine k_ic_ge_t (pc := 20) (tgt := 59) w32 d_Pr_readItem_20 rfl ?_
    refine k_sub [1, 0] rfl ?_
    exact b_Pr_readItem_59 a0 v21 h _ hf
  · refine k_ic_ge_f (pc := 20) (tgt := 59) w32 d_Pr_readItem_20 rfl ?_
    refine k_aload_n (pc := 23) rfl z_m1 d_Pr_readItem_23 ?_
    obtain ⟨v24, e_v24, hf⟩ := z_bd hf
    refine k_getR (pc := 24) d_Pr_readItem_24 fd_Pr_9 rfl e_v24 ?_
    refine k_aload_n (pc := 27) rfl z_m1 d_Pr_readItem_27 ?_
    obtain ⟨v25, e_v25, hf⟩ := z_bd hf
    refine k_getI (pc := 28) d_Pr_readItem_28 fd_Pr_45 rfl e_v25 ?_
    refine k_iconst (pc := 31) (zi_lit rfl) d_Pr_readItem_31 ?_
    refine k_iadd (pc := 32) d_Pr_readItem_32 ?_
    obtain ⟨v26, e_v26, hf⟩ := z_bd hf
    refine k_cald (pc := 33) d_Pr_readItem_33 e_v26 ?_
    refine k_bipush (pc := 34) (zi_lit rfl) (by decide) d_Pr_readItem_34 ?_
    rcases z_it hf with ⟨w31, hf⟩ | ⟨w31, hf⟩
    · refine k_ic_ne_f (pc := 36) (tgt := 59) w31 d_Pr_readItem_36 rfl ?_
      refine k_aload_n (pc := 39) rfl z_m1 d_Pr_readItem_39 ?_
      obtain ⟨v27, e_v27, hf⟩ := z_bd hf
      refine k_getR (pc := 40) d_Pr_readItem_40 fd_Pr_9 rfl e_v27 ?_
      refine k_aload_n (pc := 43) rfl z_m1 d_Pr_readItem_43 ?_
      obtain ⟨v28, e_v28, hf⟩ := z_bd hf
      refine k_getI (pc := 44) d_Pr_readItem_44 fd_Pr_45 rfl e_v28 ?_
      refine k_iconst (pc := 47) (zi_lit rfl) d_Pr_readItem_47 ?_
      refine k_iadd (pc := 48) d_Pr_readItem_48 ?_
      obtain ⟨v29, e_v29, hf⟩ := z_bd hf
      refine k_cald (pc := 49) d_Pr_readItem_49 e_v29 ?_
      refine k_bipush (pc := 50) (zi_lit rfl) (by decide) d_Pr_readItem_50 ?_
      rcases z_it hf with ⟨w30, hf⟩ | ⟨w30, hf⟩
      · refine k_ic_eq_t (pc := 52) (tgt := 59) w30 d_Pr_readItem_52 rfl ?_
        refine k_sub [1, 0] rfl ?_
        exact b_Pr_readItem_59 a0 v21 h _ hf
      · refine k_ic_eq_f (pc := 52) (tgt := 59) w30 d_Pr_readItem_52 rfl ?_
        refine k_iconst (pc := 55) (zi_lit rfl) d_Pr_readItem_55 ?_
        refine k_goto (pc := 56) (tgt := 60) d_Pr_readItem_56 rfl ?_
        refine k_sub [1, 0] rfl ?_
        exact b_Pr_readItem_60 a0 v21 1 h _ hf
    · refine k_ic_ne_t (pc := 36) (tgt := 59) w31 d_Pr_readItem_36 rfl ?_
      refine k_sub [1, 0] rfl ?_
      exact b_Pr_readItem_59 a0 v21 h _ hf
theorem t_Pr_readItem {a0 : Nat} {h : zH} {r : zH} (hf : f_Pr_readItem a0 h = some r) : zMt m_Pr_readItem [(2, ((a0 : Nat) : Int))] h (none, r) := zMt.of (by decide) (Nat.le_of_ble_eq_true rfl) (b_Pr_readItem_0 a0 h r hf)
theorem b_Pt_appendSet_0 (a0 : Nat) (a1 : Int) (a3 : Int) (h : zH) (r : zH) (hf : f_Pt_appendSet a0 a1 a3 h = some r) : zK m_Pt_appendSet 0 [(0, (2, ((a0 : Nat) : Int))), (1, (1, a1)), (3, (1, a3))] [] h (none, r) := by
  unfold f_Pt_appendSet at hf
  refine k_aload_n (pc := 0) rfl z_m0 d_Pt_appendSet_0 ?_
  obtain ⟨v1, e_v1, hf⟩ := z_bd hf
  refine k_getI (pc := 1) d_Pt_appendSet_1 fd_Pt_32 rfl e_v1 ?_
  refine k_bipush (pc := 4) (zi_lit rfl) (by decide) d_Pt_appendSet_4 ?_
  rcases z_it hf with ⟨w13, hf⟩ | ⟨w13, hf⟩
  · refine k_ic_ge_t (pc := 6) (tgt := 48) w13 d_Pt_appendSet_6 rfl ?_
    cases hf
    exact k_ret (pc := 48) d_Pt_appendSet_48 rfl
  · refine k_ic_ge_f (pc := 6) (tgt := 48) w13 d_Pt_appendSet_6 rfl ?_
    refine k_aload_n (pc := 9) rfl z_m0 d_Pt_appendSet_9 ?_
    obtain ⟨v2, e_v2, hf⟩ := z_bd hf
    refine k_getR (pc := 10) d_Pt_appendSet_10 fd_Pt_21 rfl e_v2 ?_
    refine k_aload_n (pc := 13) rfl z_m0 d_Pt_appendSet_13 ?_
    obtain ⟨v3, e_v3, hf⟩ := z_bd hf
    refine k_getI (pc := 14) d_Pt_appendSet_14 fd_Pt_32 rfl e_v3 ?_
    refine k_lload_n (pc := 17) rfl z_m1 d_Pt_appendSet_17 ?_
    obtain ⟨h4, e_h4, hf⟩ := z_bd hf
    refine k_last (pc := 18) d_Pt_appendSet_18 e_h4 ?_
    refine k_aload_n (pc := 19) rfl z_m0 d_Pt_appendSet_19 ?_
    obtain ⟨v5, e_v5, hf⟩ := z_bd hf
    refine k_getR (pc := 20) d_Pt_appendSet_20 fd_Pt_25 rfl e_v5 ?_
    refine k_aload_n (pc := 23) rfl z_m0 d_Pt_appendSet_23 ?_
    obtain ⟨v6, e_v6, hf⟩ := z_bd hf
    refine k_getI (pc := 24) d_Pt_appendSet_24 fd_Pt_32 rfl e_v6 ?_
    refine k_lload_n (pc := 27) rfl z_m2 d_Pt_appendSet_27 ?_
    obtain ⟨h7, e_h7, hf⟩ := z_bd hf
    refine k_last (pc := 28) d_Pt_appendSet_28 e_h7 ?_
    refine k_aload_n (pc := 29) rfl z_m0 d_Pt_appendSet_29 ?_
    refine k_iconst (pc := 30) (zi_lit rfl) d_Pt_appendSet_30 ?_
    refine k_aload_n (pc := 31) rfl z_m0 d_Pt_appendSet_31 ?_
    obtain ⟨v8, e_v8, hf⟩ := z_bd hf
    refine k_getI (pc := 32) d_Pt_appendSet_32 fd_Pt_32 rfl e_v8 ?_
    obtain ⟨n9, e_n9, hf⟩ := z_bd hf
    obtain ⟨h10, e_h10, hf⟩ := z_bd hf
    refine k_callVv (pc := 35) (as := [(0, 2), (0, v8)]) (rest := []) d_Pt_appendSet_35 cw_Pt_appendSet_39 rfl (Nat.le_of_ble_eq_true rfl) (z_ck_of e_n9) (t_Pt_append e_h10) ?_
    refine k_aload_n (pc := 38) rfl z_m0 d_Pt_appendSet_38 ?_
    refine k_dup (pc := 39) (Or.inr rfl) d_Pt_appendSet_39 ?_
    obtain ⟨v11, e_v11, hf⟩ := z_bd hf
    refine k_getI (pc := 40) d_Pt_appendSet_40 fd_Pt_32 rfl e_v11 ?_
    refine k_iconst (pc := 43) (zi_lit rfl) d_Pt_appendSet_43 ?_
    refine k_iadd (pc := 44) d_Pt_appendSet_44 ?_
    obtain ⟨h12, e_h12, hf⟩ := z_bd hf
    refine k_putI (pc := 45) d_Pt_appendSet_45 fd_Pt_32 (fun q => by cases q) rfl e_h12 ?_
    cases hf
    exact k_ret (pc := 48) d_Pt_appendSet_48 rfl
theorem t_Pt_appendSet {a0 : Nat} {a1 : Int} {a3 : Int} {h : zH} {r : zH} (hf : f_Pt_appendSet a0 a1 a3 h = some r) : zMt m_Pt_appendSet [(2, ((a0 : Nat) : Int)), (1, a1), (1, a3)] h (none, r) := zMt.of (by decide) (Nat.le_of_ble_eq_true rfl) (b_Pt_appendSet_0 a0 a1 a3 h r hf)
theorem b_Pr_readSet_128 (a0 : Nat) (h : zH) (r : zH) (hf : f_Pr_readSet_128 a0 h = some r) : zK m_Pr_readSet 128 [(0, (2, ((a0 : Nat) : Int)))] [] h (none, r) := by
  unfold f_Pr_readSet_128 at hf
  refine k_aload_n (pc := 128) rfl z_m0 d_Pr_readSet_128 ?_
  refine k_iconst (pc := 129) (zi_lit rfl) d_Pr_readSet_129 ?_
  obtain ⟨h1, e_h1, hf⟩ := z_bd hf
  refine k_putZ (pc := 130) d_Pr_readSet_130 fd_Pr_56 (fun q => by cases q) rfl e_h1 ?_
  cases hf
  exact k_ret (pc := 133) d_Pr_readSet_133 rfl
theorem b_Pr_readSet_183 (s0 : Nat) (s1 : Int) (s2 : Int) (h : zH) (r : zH) (hf : f_Pr_readSet_183 s0 s1 s2 h = some r) : zK m_Pr_readSet 183 [] [(1, s2), (1, s1), (2, ((s0 : Nat) : Int))] h (none, r) := by
  unfold f_Pr_readSet_183 at hf
  obtain ⟨n2, e_n2, hf⟩ := z_bd hf
  obtain ⟨h3, e_h3, hf⟩ := z_bd hf
  refine k_callVv (pc := 183) (as := [(1, s1), (1, s2)]) (rest := []) d_Pr_readSet_183 cw_Pr_readSet_127 rfl (Nat.le_of_ble_eq_true rfl) (z_ck_of e_n2) (t_Pt_appendSet e_h3) ?_
  cases hf
  exact k_ret (pc := 186) d_Pr_readSet_186 rfl
theorem b_Pr_readSet_164 (a0 : Nat) (a2 : Int) (s0 : Nat) (s1 : Int) (h : zH) (r : zH) (hf : f_Pr_readSet_164 a0 a2 s0 s1 h = some r) : zK m_Pr_readSet 164 [(0, (2, ((a0 : Nat) : Int))), (2, (0, a2))] [(1, s1), (2, ((s0 : Nat) : Int))] h (none, r) := by
  unfold f_Pr_readSet_164 at hf
  refine k_iload_n (pc := 164) rfl z_m1 d_Pr_readSet_164 ?_
  rcases z_it hf with ⟨w6, hf⟩ | ⟨w6, hf⟩
  · refine k_if_eq_t (pc := 165) (tgt := 179) w6 d_Pr_readSet_165 rfl ?_
    refine k_aload_n (pc := 179) rfl z_m0 d_Pr_readSet_179 ?_
    obtain ⟨v4, e_v4, hf⟩ := z_bd hf
    refine k_getL (pc := 180) d_Pr_readSet_180 fd_Pr_119 rfl e_v4 ?_
    refine k_sub [] rfl ?_
    exact b_Pr_readSet_183 s0 s1 v4 h _ hf
  · refine k_if_eq_f (pc := 165) (tgt := 179) w6 d_Pr_readSet_165 rfl ?_
    refine k_aload_n (pc := 168) rfl z_m0 d_Pr_readSet_168 ?_
    obtain ⟨v5, e_v5, hf⟩ := z_bd hf
    refine k_getL (pc := 169) d_Pr_readSet_169 fd_Pr_119 rfl e_v5 ?_
    refine k_ldc2 (pc := 172) (zi_lit64 rfl) w_Pr_125 d_Pr_readSet_172 ?_
    refine k_lxor (pc := 175) d_Pr_readSet_175 ?_
    refine k_goto (pc := 176) (tgt := 183) d_Pr_readSet_176 rfl ?_
    refine k_sub [] rfl ?_
    exact b_Pr_readSet_183 s0 s1 (z_lxor v5 (-1)) h _ hf
theorem b_Pr_readSet_109 (a0 : Nat) (a1 : Nat) (a2 : Int) (a3 : Int) (h : zH) (r : zH) (hf : f_Pr_readSet_109 a0 a1 a2 a3 h = some r) : zK m_Pr_readSet 109 [(0, (2, ((a0 : Nat) : Int))), (1, (2, ((a1 : Nat) : Int))), (2, (0, a2)), (3, (0, a3))] [] h (none, r) := by
  unfold f_Pr_readSet_109 at hf
  refine k_aload_n (pc := 109) rfl z_m0 d_Pr_readSet_109 ?_
  obtain ⟨v7, e_v7, hf⟩ := z_bd hf
  refine k_getI (pc := 110) d_Pr_readSet_110 fd_Pr_45 rfl e_v7 ?_
  refine k_iload_n (pc := 113) rfl z_m3 d_Pr_readSet_113 ?_
  rcases z_it hf with ⟨w16, hf⟩ | ⟨w16, hf⟩
  · refine k_ic_eq_t (pc := 114) (tgt := 128) w16 d_Pr_readSet_114 rfl ?_
    refine k_sub [0] rfl ?_
    exact b_Pr_readSet_128 a0 h _ hf
  · refine k_ic_eq_f (pc := 114) (tgt := 128) w16 d_Pr_readSet_114 rfl ?_
    refine k_aload_n (pc := 117) rfl z_m0 d_Pr_readSet_117 ?_
    obtain ⟨v8, e_v8, hf⟩ := z_bd hf
    refine k_getI (pc := 118) d_Pr_readSet_118 fd_Pr_45 rfl e_v8 ?_
    refine k_aload_n (pc := 121) rfl z_m0 d_Pr_readSet_121 ?_
    obtain ⟨v9, e_v9, hf⟩ := z_bd hf
    refine k_getI (pc := 122) d_Pr_readSet_122 fd_Pr_35 rfl e_v9 ?_
    rcases z_it hf with ⟨w15, hf⟩ | ⟨w15, hf⟩
    · refine k_ic_lt_t (pc := 125) (tgt := 134) w15 d_Pr_readSet_125 rfl ?_
      refine k_aload_n (pc := 134) rfl z_m0 d_Pr_readSet_134 ?_
      refine k_dup (pc := 135) (Or.inr rfl) d_Pr_readSet_135 ?_
      obtain ⟨v10, e_v10, hf⟩ := z_bd hf
      refine k_getI (pc := 136) d_Pr_readSet_136 fd_Pr_45 rfl e_v10 ?_
      refine k_iconst (pc := 139) (zi_lit rfl) d_Pr_readSet_139 ?_
      refine k_iadd (pc := 140) d_Pr_readSet_140 ?_
      obtain ⟨h11, e_h11, hf⟩ := z_bd hf
      refine k_putI (pc := 141) d_Pr_readSet_141 fd_Pr_45 (fun q => by cases q) rfl e_h11 ?_
      refine k_aload_n (pc := 144) rfl z_m1 d_Pr_readSet_144 ?_
      refine k_iload_n (pc := 145) rfl z_m2 d_Pr_readSet_145 ?_
      rcases z_it hf with ⟨w14, hf⟩ | ⟨w14, hf⟩
      · refine k_if_eq_t (pc := 146) (tgt := 160) w14 d_Pr_readSet_146 rfl ?_
        refine k_aload_n (pc := 160) rfl z_m0 d_Pr_readSet_160 ?_
        obtain ⟨v12, e_v12, hf⟩ := z_bd hf
        refine k_getL (pc := 161) d_Pr_readSet_161 fd_Pr_115 rfl e_v12 ?_
        refine k_sub [0, 2] rfl ?_
        exact b_Pr_readSet_164 a0 a2 a1 v12 h11 _ hf
      · refine k_if_eq_f (pc := 146) (tgt := 160) w14 d_Pr_readSet_146 rfl ?_
        refine k_aload_n (pc := 149) rfl z_m0 d_Pr_readSet_149 ?_
        obtain ⟨v13, e_v13, hf⟩ := z_bd hf
        refine k_getL (pc := 150) d_Pr_readSet_150 fd_Pr_115 rfl e_v13 ?_
        refine k_ldc2 (pc := 153) (zi_lit64 rfl) w_Pr_125 d_Pr_readSet_153 ?_
        refine k_lxor (pc := 156) d_Pr_readSet_156 ?_
        refine k_goto (pc := 157) (tgt := 164) d_Pr_readSet_157 rfl ?_
        refine k_sub [0, 2] rfl ?_
        exact b_Pr_readSet_164 a0 a2 a1 (z_lxor v13 (-1)) h11 _ hf
    · refine k_ic_lt_f (pc := 125) (tgt := 134) w15 d_Pr_readSet_125 rfl ?_
      refine k_sub [0] rfl ?_
      exact b_Pr_readSet_128 a0 h _ hf
theorem b_Pr_readSet_67 : ∀ (n : Nat) (a0 : Nat) (a1 : Nat) (a2 : Int) (a3 : Int) (a4 : Int) (h : zH) (r : zH), f_Pr_readSet_67 n a0 a1 a2 a3 a4 h = some r → zK m_Pr_readSet 67 [(0, (2, ((a0 : Nat) : Int))), (1, (2, ((a1 : Nat) : Int))), (2, (0, a2)), (3, (0, a3)), (4, (0, a4))] [] h (none, r) := by
  intro n
  induction n with
  | zero =>
    intro a0 a1 a2 a3 a4 h r hf
    cases hf
  | succ n ih =>
    intro a0 a1 a2 a3 a4 h r hf
    unfold f_Pr_readSet_67 at hf
    refine k_iload (pc := 67) z_m4 d_Pr_readSet_67 ?_
    refine k_bipush (pc := 69) (zi_lit rfl) (by decide) d_Pr_readSet_69 ?_
    rcases z_it hf with ⟨w26, hf⟩ | ⟨w26, hf⟩
    · refine k_ic_ge_t (pc := 71) (tgt := 109) w26 d_Pr_readSet_71 rfl ?_
      refine k_sub [0, 1, 2, 3] rfl ?_
      exact b_Pr_readSet_109 a0 a1 a2 a3 h _ hf
    · refine k_ic_ge_f (pc := 71) (tgt := 109) w26 d_Pr_readSet_71 rfl ?_
      refine k_aload_n (pc := 74) rfl z_m0 d_Pr_readSet_74 ?_
      obtain ⟨v17, e_v17, hf⟩ := z_bd hf
      refine k_getI (pc := 75) d_Pr_readSet_75 fd_Pr_45 rfl e_v17 ?_
      refine k_aload_n (pc := 78) rfl z_m0 d_Pr_readSet_78 ?_
      obtain ⟨v18, e_v18, hf⟩ := z_bd hf
      refine k_getI (pc := 79) d_Pr_readSet_79 fd_Pr_35 rfl e_v18 ?_
      rcases z_it hf with ⟨w25, hf⟩ | ⟨w25, hf⟩
      · refine k_ic_ge_t (pc := 82) (tgt := 109) w25 d_Pr_readSet_82 rfl ?_
        refine k_sub [0, 1, 2, 3] rfl ?_
        exact b_Pr_readSet_109 a0 a1 a2 a3 h _ hf
      · refine k_ic_ge_f (pc := 82) (tgt := 109) w25 d_Pr_readSet_82 rfl ?_
        refine k_aload_n (pc := 85) rfl z_m0 d_Pr_readSet_85 ?_
        obtain ⟨v19, e_v19, hf⟩ := z_bd hf
        refine k_getR (pc := 86) d_Pr_readSet_86 fd_Pr_9 rfl e_v19 ?_
        refine k_aload_n (pc := 89) rfl z_m0 d_Pr_readSet_89 ?_
        obtain ⟨v20, e_v20, hf⟩ := z_bd hf
        refine k_getI (pc := 90) d_Pr_readSet_90 fd_Pr_45 rfl e_v20 ?_
        obtain ⟨v21, e_v21, hf⟩ := z_bd hf
        refine k_cald (pc := 93) d_Pr_readSet_93 e_v21 ?_
        refine k_bipush (pc := 94) (zi_lit rfl) (by decide) d_Pr_readSet_94 ?_
        rcases z_it hf with ⟨w24, hf⟩ | ⟨w24, hf⟩
        · refine k_ic_eq_t (pc := 96) (tgt := 109) w24 d_Pr_readSet_96 rfl ?_
          refine k_sub [0, 1, 2, 3] rfl ?_
          exact b_Pr_readSet_109 a0 a1 a2 a3 h _ hf
        · refine k_ic_eq_f (pc := 96) (tgt := 109) w24 d_Pr_readSet_96 rfl ?_
          refine k_aload_n (pc := 99) rfl z_m0 d_Pr_readSet_99 ?_
          obtain ⟨n22, e_n22, hf⟩ := z_bd hf
          obtain ⟨h23, e_h23, hf⟩ := z_bd hf
          refine k_callVv (pc := 100) (as := []) (rest := []) d_Pr_readSet_100 cw_Pr_readSet_122 rfl (Nat.le_of_ble_eq_true rfl) (z_ck_of e_n22) (t_Pr_readItem e_h23) ?_
          refine k_iinc (pc := 103) (L' := [(4, (0, zw (a4 + 1))), (0, (2, ((a0 : Nat) : Int))), (1, (2, ((a1 : Nat) : Int))), (2, (0, a2)), (3, (0, a3))]) z_m4 d_Pr_readSet_103 (Nat.le_of_ble_eq_true rfl) rfl ?_
          refine k_goto (pc := 106) (tgt := 67) d_Pr_readSet_106 rfl ?_
          refine k_sub [1, 2, 3, 4, 0] rfl ?_
          exact ih a0 a1 a2 a3 (zw (a4 + 1)) h23 _ hf
theorem b_Pr_readSet_45 (a0 : Nat) (a1 : Nat) (a2 : Int) (s0 : Nat) (s1 : Int) (s2 : Int) (h : zH) (r : zH) (hf : f_Pr_readSet_45 a0 a1 a2 s0 s1 s2 h = some r) : zK m_Pr_readSet 45 [(0, (2, ((a0 : Nat) : Int))), (1, (2, ((a1 : Nat) : Int))), (2, (0, a2))] [(0, s2), (0, s1), (2, ((s0 : Nat) : Int))] h (none, r) := by
  unfold f_Pr_readSet_45 at hf
  refine k_iadd (pc := 45) d_Pr_readSet_45 ?_
  obtain ⟨h27, e_h27, hf⟩ := z_bd hf
  refine k_putI (pc := 46) d_Pr_readSet_46 fd_Pr_45 (fun q => by cases q) rfl e_h27 ?_
  refine k_aload_n (pc := 49) rfl z_m0 d_Pr_readSet_49 ?_
  obtain ⟨v28, e_v28, hf⟩ := z_bd hf
  refine k_getI (pc := 50) d_Pr_readSet_50 fd_Pr_45 rfl e_v28 ?_
  refine k_istore_n (pc := 53) (L' := [(3, (0, v28)), (0, (2, ((a0 : Nat) : Int))), (1, (2, ((a1 : Nat) : Int))), (2, (0, a2))]) rfl d_Pr_readSet_53 (Nat.le_of_ble_eq_true rfl) rfl ?_
  refine k_aload_n (pc := 54) rfl z_m1 d_Pr_readSet_54 ?_
  refine k_lconst (pc := 55) (x := 0) (zi_lit64 rfl) (by decide) d_Pr_readSet_55 ?_
  obtain ⟨h29, e_h29, hf⟩ := z_bd hf
  refine k_putL (pc := 56) d_Pr_readSet_56 fd_Pr_115 (fun q => by cases q) rfl e_h29 ?_
  refine k_aload_n (pc := 59) rfl z_m1 d_Pr_readSet_59 ?_
  refine k_lconst (pc := 60) (x := 0) (zi_lit64 rfl) (by decide) d_Pr_readSet_60 ?_
  obtain ⟨h30, e_h30, hf⟩ := z_bd hf
  refine k_putL (pc := 61) d_Pr_readSet_61 fd_Pr_119 (fun q => by cases q) rfl e_h30 ?_
  refine k_iconst (pc := 64) (zi_lit rfl) d_Pr_readSet_64 ?_
  refine k_istore (pc := 65) (L' := [(4, (0, 0)), (3, (0, v28)), (0, (2, ((a0 : Nat) : Int))), (1, (2, ((a1 : Nat) : Int))), (2, (0, a2))]) d_Pr_readSet_65 (Nat.le_of_ble_eq_true rfl) rfl ?_
  refine k_sub [2, 3, 4, 1, 0] rfl ?_
  exact b_Pr_readSet_67 100000 a0 a1 a2 v28 0 h30 _ hf
theorem b_Pr_readSet_30 (a0 : Nat) (a1 : Nat) (s0 : Int) (h : zH) (r : zH) (hf : f_Pr_readSet_30 a0 a1 s0 h = some r) : zK m_Pr_readSet 30 [(0, (2, ((a0 : Nat) : Int))), (1, (2, ((a1 : Nat) : Int)))] [(0, s0)] h (none, r) := by
  unfold f_Pr_readSet_30 at hf
  refine k_istore_n (pc := 30) (L' := [(2, (0, s0)), (0, (2, ((a0 : Nat) : Int))), (1, (2, ((a1 : Nat) : Int)))]) rfl d_Pr_readSet_30 (Nat.le_of_ble_eq_true rfl) rfl ?_
  refine k_aload_n (pc := 31) rfl z_m1 d_Pr_readSet_31 ?_
  refine k_dup (pc := 32) (Or.inr rfl) d_Pr_readSet_32 ?_
  obtain ⟨v31, e_v31, hf⟩ := z_bd hf
  refine k_getI (pc := 33) d_Pr_readSet_33 fd_Pr_45 rfl e_v31 ?_
  refine k_iload_n (pc := 36) rfl z_m0 d_Pr_readSet_36 ?_
  rcases z_it hf with ⟨w32, hf⟩ | ⟨w32, hf⟩
  · refine k_if_eq_t (pc := 37) (tgt := 44) w32 d_Pr_readSet_37 rfl ?_
    refine k_iconst (pc := 44) (zi_lit rfl) d_Pr_readSet_44 ?_
    refine k_sub [1, 2, 0] rfl ?_
    exact b_Pr_readSet_45 a0 a1 s0 a0 v31 0 h _ hf
  · refine k_if_eq_f (pc := 37) (tgt := 44) w32 d_Pr_readSet_37 rfl ?_
    refine k_iconst (pc := 40) (zi_lit rfl) d_Pr_readSet_40 ?_
    refine k_goto (pc := 41) (tgt := 45) d_Pr_readSet_41 rfl ?_
    refine k_sub [1, 2, 0] rfl ?_
    exact b_Pr_readSet_45 a0 a1 s0 a0 v31 1 h _ hf
theorem b_Pr_readSet_29 (a0 : Nat) (a1 : Nat) (h : zH) (r : zH) (hf : f_Pr_readSet_29 a0 a1 h = some r) : zK m_Pr_readSet 29 [(0, (2, ((a0 : Nat) : Int))), (1, (2, ((a1 : Nat) : Int)))] [] h (none, r) := by
  unfold f_Pr_readSet_29 at hf
  refine k_iconst (pc := 29) (zi_lit rfl) d_Pr_readSet_29 ?_
  exact b_Pr_readSet_30 a0 a1 0 h _ hf
theorem b_Pr_readSet_0 (a0 : Nat) (a1 : Nat) (h : zH) (r : zH) (hf : f_Pr_readSet a0 a1 h = some r) : zK m_Pr_readSet 0 [(0, (2, ((a0 : Nat) : Int))), (1, (2, ((a1 : Nat) : Int)))] [] h (none, r) := by
  unfold f_Pr_readSet at hf
  refine k_aload_n (pc := 0) rfl z_m0 d_Pr_readSet_0 ?_
  obtain ⟨v33, e_v33, hf⟩ := z_bd hf
  refine k_getI (pc := 1) d_Pr_readSet_1 fd_Pr_45 rfl e_v33 ?_
  refine k_aload_n (pc := 4) rfl z_m0 d_Pr_readSet_4 ?_
  obtain ⟨v34, e_v34, hf⟩ := z_bd hf
  refine k_getI (pc := 5) d_Pr_readSet_5 fd_Pr_35 rfl e_v34 ?_
  rcases z_it hf with ⟨w39, hf⟩ | ⟨w39, hf⟩
  · refine k_ic_ge_t (pc := 8) (tgt := 29) w39 d_Pr_readSet_8 rfl ?_
    exact b_Pr_readSet_29 a0 a1 h _ hf
  · refine k_ic_ge_f (pc := 8) (tgt := 29) w39 d_Pr_readSet_8 rfl ?_
    refine k_aload_n (pc := 11) rfl z_m0 d_Pr_readSet_11 ?_
    obtain ⟨v35, e_v35, hf⟩ := z_bd hf
    refine k_getR (pc := 12) d_Pr_readSet_12 fd_Pr_9 rfl e_v35 ?_
    refine k_aload_n (pc := 15) rfl z_m0 d_Pr_readSet_15 ?_
    obtain ⟨v36, e_v36, hf⟩ := z_bd hf
    refine k_getI (pc := 16) d_Pr_readSet_16 fd_Pr_45 rfl e_v36 ?_
    obtain ⟨v37, e_v37, hf⟩ := z_bd hf
    refine k_cald (pc := 19) d_Pr_readSet_19 e_v37 ?_
    refine k_bipush (pc := 20) (zi_lit rfl) (by decide) d_Pr_readSet_20 ?_
    rcases z_it hf with ⟨w38, hf⟩ | ⟨w38, hf⟩
    · refine k_ic_ne_f (pc := 22) (tgt := 29) w38 d_Pr_readSet_22 rfl ?_
      refine k_iconst (pc := 25) (zi_lit rfl) d_Pr_readSet_25 ?_
      refine k_goto (pc := 26) (tgt := 30) d_Pr_readSet_26 rfl ?_
      exact b_Pr_readSet_30 a0 a1 1 h _ hf
    · refine k_ic_ne_t (pc := 22) (tgt := 29) w38 d_Pr_readSet_22 rfl ?_
      exact b_Pr_readSet_29 a0 a1 h _ hf
theorem t_Pr_readSet {a0 : Nat} {a1 : Nat} {h : zH} {r : zH} (hf : f_Pr_readSet a0 a1 h = some r) : zMt m_Pr_readSet [(2, ((a0 : Nat) : Int)), (2, ((a1 : Nat) : Int))] h (none, r) := zMt.of (by decide) (Nat.le_of_ble_eq_true rfl) (b_Pr_readSet_0 a0 a1 h r hf)
theorem b_Pr_readEscape_50 (a1 : Nat) (a2 : Int) (h : zH) (r : Int × zH) (hf : f_Pr_readEscape_50 a1 a2 h = some r) : zK m_Pr_readEscape 50 [(1, (2, ((a1 : Nat) : Int))), (2, (0, a2))] [] h (some (0, r.1), r.2) := by
  unfold f_Pr_readEscape_50 at hf
  refine k_aload_n (pc := 50) rfl z_m0 d_Pr_readEscape_50 ?_
  refine k_iconst (pc := 51) (zi_lit rfl) d_Pr_readEscape_51 ?_
  refine k_iload_n (pc := 52) rfl z_m1 d_Pr_readEscape_52 ?_
  obtain ⟨n1, e_n1, hf⟩ := z_bd hf
  obtain ⟨h2, e_h2, hf⟩ := z_bd hf
  refine k_callVv (pc := 53) (as := [(0, 0), (0, a2)]) (rest := []) d_Pr_readEscape_53 cw_Pr_readEscape_82 rfl (Nat.le_of_ble_eq_true rfl) (z_ck_of e_n1) (t_Pt_append e_h2) ?_
  refine k_iconst (pc := 56) (zi_lit rfl) d_Pr_readEscape_56 ?_
  cases hf
  exact k_zret (pc := 57) d_Pr_readEscape_57 rfl (Or.inl rfl)
theorem b_Pr_readEscape_83 (a1 : Nat) (a2 : Int) (s0 : Nat) (s1 : Int) (h : zH) (r : Int × zH) (hf : f_Pr_readEscape_83 a1 a2 s0 s1 h = some r) : zK m_Pr_readEscape 83 [(1, (2, ((a1 : Nat) : Int))), (2, (0, a2))] [(0, s1), (2, ((s0 : Nat) : Int))] h (some (0, r.1), r.2) := by
  unfold f_Pr_readEscape_83 at hf
  obtain ⟨h3, e_h3, hf⟩ := z_bd hf
  refine k_putZ (pc := 83) d_Pr_readEscape_83 fd_Pr_56 (fun q => by cases q) rfl e_h3 ?_
  refine k_aload_n (pc := 86) rfl z_m0 d_Pr_readEscape_86 ?_
  refine k_iconst (pc := 87) (zi_lit rfl) d_Pr_readEscape_87 ?_
  refine k_iload_n (pc := 88) rfl z_m1 d_Pr_readEscape_88 ?_
  refine k_bipush (pc := 89) (zi_lit rfl) (by decide) d_Pr_readEscape_89 ?_
  refine k_isub (pc := 91) d_Pr_readEscape_91 ?_
  obtain ⟨n4, e_n4, hf⟩ := z_bd hf
  obtain ⟨h5, e_h5, hf⟩ := z_bd hf
  refine k_callVv (pc := 92) (as := [(0, 5), (0, zw (a2 - 48))]) (rest := []) d_Pr_readEscape_92 cw_Pr_readEscape_82 rfl (Nat.le_of_ble_eq_true rfl) (z_ck_of e_n4) (t_Pt_append e_h5) ?_
  refine k_iconst (pc := 95) (zi_lit rfl) d_Pr_readEscape_95 ?_
  cases hf
  exact k_zret (pc := 96) d_Pr_readEscape_96 rfl (Or.inr rfl)
theorem b_Pr_readEscape_78 (a1 : Nat) (a2 : Int) (s0 : Nat) (h : zH) (r : Int × zH) (hf : f_Pr_readEscape_78 a1 a2 s0 h = some r) : zK m_Pr_readEscape 78 [(1, (2, ((a1 : Nat) : Int))), (2, (0, a2))] [(2, ((s0 : Nat) : Int))] h (some (0, r.1), r.2) := by
  unfold f_Pr_readEscape_78 at hf
  refine k_iconst (pc := 78) (zi_lit rfl) d_Pr_readEscape_78 ?_
  refine k_goto (pc := 79) (tgt := 83) d_Pr_readEscape_79 rfl ?_
  exact b_Pr_readEscape_83 a1 a2 s0 1 h _ hf
theorem b_Pr_readEscape_82 (a1 : Nat) (a2 : Int) (s0 : Nat) (h : zH) (r : Int × zH) (hf : f_Pr_readEscape_82 a1 a2 s0 h = some r) : zK m_Pr_readEscape 82 [(1, (2, ((a1 : Nat) : Int))), (2, (0, a2))] [(2, ((s0 : Nat) : Int))] h (some (0, r.1), r.2) := by
  unfold f_Pr_readEscape_82 at hf
  refine k_iconst (pc := 82) (zi_lit rfl) d_Pr_readEscape_82 ?_
  exact b_Pr_readEscape_83 a1 a2 s0 0 h _ hf
theorem b_Pr_readEscape_0 (a0 : Nat) (a1 : Nat) (h : zH) (r : Int × zH) (hf : f_Pr_readEscape a0 a1 h = some r) : zK m_Pr_readEscape 0 [(0, (2, ((a0 : Nat) : Int))), (1, (2, ((a1 : Nat) : Int)))] [] h (some (0, r.1), r.2) := by
  unfold f_Pr_readEscape at hf
  refine k_aload_n (pc := 0) rfl z_m0 d_Pr_readEscape_0 ?_
  obtain ⟨v6, e_v6, hf⟩ := z_bd hf
  refine k_getI (pc := 1) d_Pr_readEscape_1 fd_Pr_45 rfl e_v6 ?_
  refine k_aload_n (pc := 4) rfl z_m0 d_Pr_readEscape_4 ?_
  obtain ⟨v7, e_v7, hf⟩ := z_bd hf
  refine k_getI (pc := 5) d_Pr_readEscape_5 fd_Pr_35 rfl e_v7 ?_
  rcases z_it hf with ⟨w20, hf⟩ | ⟨w20, hf⟩
  · refine k_ic_ne_f (pc := 8) (tgt := 18) w20 d_Pr_readEscape_8 rfl ?_
    refine k_aload_n (pc := 11) rfl z_m0 d_Pr_readEscape_11 ?_
    refine k_iconst (pc := 12) (zi_lit rfl) d_Pr_readEscape_12 ?_
    obtain ⟨h19, e_h19, hf⟩ := z_bd hf
    refine k_putZ (pc := 13) d_Pr_readEscape_13 fd_Pr_56 (fun q => by cases q) rfl e_h19 ?_
    refine k_iconst (pc := 16) (zi_lit rfl) d_Pr_readEscape_16 ?_
    cases hf
    exact k_zret (pc := 17) d_Pr_readEscape_17 rfl (Or.inl rfl)
  · refine k_ic_ne_t (pc := 8) (tgt := 18) w20 d_Pr_readEscape_8 rfl ?_
    refine k_aload_n (pc := 18) rfl z_m0 d_Pr_readEscape_18 ?_
    obtain ⟨v8, e_v8, hf⟩ := z_bd hf
    refine k_getR (pc := 19) d_Pr_readEscape_19 fd_Pr_9 rfl e_v8 ?_
    refine k_aload_n (pc := 22) rfl z_m0 d_Pr_readEscape_22 ?_
    obtain ⟨v9, e_v9, hf⟩ := z_bd hf
    refine k_getI (pc := 23) d_Pr_readEscape_23 fd_Pr_45 rfl e_v9 ?_
    obtain ⟨v10, e_v10, hf⟩ := z_bd hf
    refine k_cald (pc := 26) d_Pr_readEscape_26 e_v10 ?_
    refine k_istore_n (pc := 27) (L' := [(2, (0, v10)), (0, (2, ((a0 : Nat) : Int))), (1, (2, ((a1 : Nat) : Int)))]) rfl d_Pr_readEscape_27 (Nat.le_of_ble_eq_true rfl) rfl ?_
    refine k_aload_n (pc := 28) rfl z_m1 d_Pr_readEscape_28 ?_
    refine k_dup (pc := 29) (Or.inr rfl) d_Pr_readEscape_29 ?_
    obtain ⟨v11, e_v11, hf⟩ := z_bd hf
    refine k_getI (pc := 30) d_Pr_readEscape_30 fd_Pr_45 rfl e_v11 ?_
    refine k_iconst (pc := 33) (zi_lit rfl) d_Pr_readEscape_33 ?_
    refine k_iadd (pc := 34) d_Pr_readEscape_34 ?_
    obtain ⟨h12, e_h12, hf⟩ := z_bd hf
    refine k_putI (pc := 35) d_Pr_readEscape_35 fd_Pr_45 (fun q => by cases q) rfl e_h12 ?_
    refine k_iload_n (pc := 38) rfl z_m0 d_Pr_readEscape_38 ?_
    refine k_bipush (pc := 39) (zi_lit rfl) (by decide) d_Pr_readEscape_39 ?_
    rcases z_it hf with ⟨w18, hf⟩ | ⟨w18, hf⟩
    · refine k_ic_lt_t (pc := 41) (tgt := 50) w18 d_Pr_readEscape_41 rfl ?_
      refine k_sub [2, 0] rfl ?_
      exact b_Pr_readEscape_50 a1 v10 h12 _ hf
    · refine k_ic_lt_f (pc := 41) (tgt := 50) w18 d_Pr_readEscape_41 rfl ?_
      refine k_iload_n (pc := 44) rfl z_m0 d_Pr_readEscape_44 ?_
      refine k_bipush (pc := 45) (zi_lit rfl) (by decide) d_Pr_readEscape_45 ?_
      rcases z_it hf with ⟨w17, hf⟩ | ⟨w17, hf⟩
      · refine k_ic_le_t (pc := 47) (tgt := 58) w17 d_Pr_readEscape_47 rfl ?_
        refine k_aload_n (pc := 58) rfl z_m1 d_Pr_readEscape_58 ?_
        refine k_aload_n (pc := 59) rfl z_m1 d_Pr_readEscape_59 ?_
        obtain ⟨v13, e_v13, hf⟩ := z_bd hf
        refine k_getI (pc := 60) d_Pr_readEscape_60 fd_Pr_48 rfl e_v13 ?_
        rcases z_it hf with ⟨w16, hf⟩ | ⟨w16, hf⟩
        · refine k_if_eq_t (pc := 63) (tgt := 78) w16 d_Pr_readEscape_63 rfl ?_
          refine k_sub [2, 0] rfl ?_
          exact b_Pr_readEscape_78 a1 v10 a0 h12 _ hf
        · refine k_if_eq_f (pc := 63) (tgt := 78) w16 d_Pr_readEscape_63 rfl ?_
          refine k_iload_n (pc := 66) rfl z_m0 d_Pr_readEscape_66 ?_
          refine k_bipush (pc := 67) (zi_lit rfl) (by decide) d_Pr_readEscape_67 ?_
          rcases z_it hf with ⟨w15, hf⟩ | ⟨w15, hf⟩
          · refine k_ic_eq_t (pc := 69) (tgt := 82) w15 d_Pr_readEscape_69 rfl ?_
            refine k_sub [2, 0] rfl ?_
            exact b_Pr_readEscape_82 a1 v10 a0 h12 _ hf
          · refine k_ic_eq_f (pc := 69) (tgt := 82) w15 d_Pr_readEscape_69 rfl ?_
            refine k_iload_n (pc := 72) rfl z_m0 d_Pr_readEscape_72 ?_
            refine k_bipush (pc := 73) (zi_lit rfl) (by decide) d_Pr_readEscape_73 ?_
            rcases z_it hf with ⟨w14, hf⟩ | ⟨w14, hf⟩
            · refine k_ic_eq_t (pc := 75) (tgt := 82) w14 d_Pr_readEscape_75 rfl ?_
              refine k_sub [2, 0] rfl ?_
              exact b_Pr_readEscape_82 a1 v10 a0 h12 _ hf
            · refine k_ic_eq_f (pc := 75) (tgt := 82) w14 d_Pr_readEscape_75 rfl ?_
              refine k_sub [2, 0] rfl ?_
              exact b_Pr_readEscape_78 a1 v10 a0 h12 _ hf
      · refine k_ic_le_f (pc := 47) (tgt := 58) w17 d_Pr_readEscape_47 rfl ?_
        refine k_sub [2, 0] rfl ?_
        exact b_Pr_readEscape_50 a1 v10 h12 _ hf
theorem t_Pr_readEscape {a0 : Nat} {a1 : Nat} {h : zH} {r : Int × zH} (hf : f_Pr_readEscape a0 a1 h = some r) : zMt m_Pr_readEscape [(2, ((a0 : Nat) : Int)), (2, ((a1 : Nat) : Int))] h (some (0, r.1), r.2) := zMt.of (by decide) (Nat.le_of_ble_eq_true rfl) (b_Pr_readEscape_0 a0 a1 h r hf)
theorem b_Pr_readAtom_113 (a0 : Nat) (h : zH) (r : Int × zH) (hf : f_Pr_readAtom_113 a0 h = some r) : zK m_Pr_readAtom 113 [(0, (2, ((a0 : Nat) : Int)))] [] h (some (0, r.1), r.2) := by
  unfold f_Pr_readAtom_113 at hf
  refine k_aload_n (pc := 113) rfl z_m0 d_Pr_readAtom_113 ?_
  refine k_iconst (pc := 114) (zi_lit rfl) d_Pr_readAtom_114 ?_
  obtain ⟨h1, e_h1, hf⟩ := z_bd hf
  refine k_putZ (pc := 115) d_Pr_readAtom_115 fd_Pr_56 (fun q => by cases q) rfl e_h1 ?_
  refine k_iconst (pc := 118) (zi_lit rfl) d_Pr_readAtom_118 ?_
  cases hf
  exact k_zret (pc := 119) d_Pr_readAtom_119 rfl (Or.inl rfl)
theorem b_Pr_readAtom_0 (a0 : Nat) (a1 : Int) (a2 : Nat) (h : zH) (r : Int × zH) (hf : f_Pr_readAtom a0 a1 a2 h = some r) : zK m_Pr_readAtom 0 [(0, (2, ((a0 : Nat) : Int))), (1, (0, a1)), (2, (2, ((a2 : Nat) : Int)))] [] h (some (0, r.1), r.2) := by
  unfold f_Pr_readAtom at hf
  refine k_iload_n (pc := 0) rfl z_m1 d_Pr_readAtom_0 ?_
  rcases z_it hf with ⟨w4, hf⟩ | ⟨w4, hf⟩
  · refine k_look (pc := 1) (tgt := 92) (off := 91) d_Pr_readAtom_1 (by decide) (by rw [w4]; rfl) rfl ?_
    refine k_aload_n (pc := 92) rfl z_m2 d_Pr_readAtom_92 ?_
    refine k_iconst (pc := 93) (zi_lit rfl) d_Pr_readAtom_93 ?_
    refine k_iconst (pc := 94) (zi_lit rfl) d_Pr_readAtom_94 ?_
    obtain ⟨n2, e_n2, hf⟩ := z_bd hf
    obtain ⟨h3, e_h3, hf⟩ := z_bd hf
    refine k_callVv (pc := 95) (as := [(0, 4), (0, 0)]) (rest := []) d_Pr_readAtom_95 cw_Pr_readAtom_82 rfl (Nat.le_of_ble_eq_true rfl) (z_ck_of e_n2) (t_Pt_append e_h3) ?_
    refine k_iconst (pc := 98) (zi_lit rfl) d_Pr_readAtom_98 ?_
    cases hf
    exact k_zret (pc := 99) d_Pr_readAtom_99 rfl (Or.inr rfl)
  rcases z_it hf with ⟨w5, hf⟩ | ⟨w5, hf⟩
  · refine k_look (pc := 1) (tgt := 113) (off := 112) d_Pr_readAtom_1 (by decide) (by rw [w5]; rfl) rfl ?_
    refine k_sub [0] rfl ?_
    exact b_Pr_readAtom_113 a0 h _ hf
  rcases z_it hf with ⟨w6, hf⟩ | ⟨w6, hf⟩
  · refine k_look (pc := 1) (tgt := 113) (off := 112) d_Pr_readAtom_1 (by decide) (by rw [w6]; rfl) rfl ?_
    refine k_sub [0] rfl ?_
    exact b_Pr_readAtom_113 a0 h _ hf
  rcases z_it hf with ⟨w9, hf⟩ | ⟨w9, hf⟩
  · refine k_look (pc := 1) (tgt := 76) (off := 75) d_Pr_readAtom_1 (by decide) (by rw [w9]; rfl) rfl ?_
    refine k_aload_n (pc := 76) rfl z_m2 d_Pr_readAtom_76 ?_
    refine k_iconst (pc := 77) (zi_lit rfl) d_Pr_readAtom_77 ?_
    refine k_iconst (pc := 78) (zi_lit rfl) d_Pr_readAtom_78 ?_
    obtain ⟨n7, e_n7, hf⟩ := z_bd hf
    obtain ⟨h8, e_h8, hf⟩ := z_bd hf
    refine k_callVv (pc := 79) (as := [(0, 1), (0, 0)]) (rest := []) d_Pr_readAtom_79 cw_Pr_readAtom_82 rfl (Nat.le_of_ble_eq_true rfl) (z_ck_of e_n7) (t_Pt_append e_h8) ?_
    refine k_iconst (pc := 82) (zi_lit rfl) d_Pr_readAtom_82 ?_
    cases hf
    exact k_zret (pc := 83) d_Pr_readAtom_83 rfl (Or.inl rfl)
  rcases z_it hf with ⟨w10, hf⟩ | ⟨w10, hf⟩
  · refine k_look (pc := 1) (tgt := 113) (off := 112) d_Pr_readAtom_1 (by decide) (by rw [w10]; rfl) rfl ?_
    refine k_sub [0] rfl ?_
    exact b_Pr_readAtom_113 a0 h _ hf
  rcases z_it hf with ⟨w13, hf⟩ | ⟨w13, hf⟩
  · refine k_look (pc := 1) (tgt := 100) (off := 99) d_Pr_readAtom_1 (by decide) (by rw [w13]; rfl) rfl ?_
    refine k_aload_n (pc := 100) rfl z_m0 d_Pr_readAtom_100 ?_
    refine k_aload_n (pc := 101) rfl z_m2 d_Pr_readAtom_101 ?_
    obtain ⟨n11, e_n11, hf⟩ := z_bd hf
    obtain ⟨h12, e_h12, hf⟩ := z_bd hf
    refine k_callVv (pc := 102) (as := [(2, ((a2 : Nat) : Int))]) (rest := []) d_Pr_readAtom_102 cw_Pr_readAtom_109 rfl (Nat.le_of_ble_eq_true rfl) (z_ck_of e_n11) (t_Pr_readSet e_h12) ?_
    refine k_iconst (pc := 105) (zi_lit rfl) d_Pr_readAtom_105 ?_
    cases hf
    exact k_zret (pc := 106) d_Pr_readAtom_106 rfl (Or.inl rfl)
  rcases z_it hf with ⟨w16, hf⟩ | ⟨w16, hf⟩
  · refine k_look (pc := 1) (tgt := 107) (off := 106) d_Pr_readAtom_1 (by decide) (by rw [w16]; rfl) rfl ?_
    refine k_aload_n (pc := 107) rfl z_m0 d_Pr_readAtom_107 ?_
    refine k_aload_n (pc := 108) rfl z_m2 d_Pr_readAtom_108 ?_
    obtain ⟨n14, e_n14, hf⟩ := z_bd hf
    obtain ⟨q15, e_q15, hf⟩ := z_bd hf
    refine k_callVi (pc := 109) (as := [(2, ((a2 : Nat) : Int))]) (rest := []) d_Pr_readAtom_109 cw_Pr_readAtom_112 rfl (Nat.le_of_ble_eq_true rfl) (z_ck_of e_n14) (t_Pr_readEscape e_q15) ?_
    obtain ⟨b, eb, hf⟩ := z_bd hf
    have hb := z_bo_of eb
    rw [hb.1] at hf
    cases hf
    exact k_zret (pc := 112) d_Pr_readAtom_112 rfl hb.2
  rcases z_it hf with ⟨w19, hf⟩ | ⟨w19, hf⟩
  · refine k_look (pc := 1) (tgt := 84) (off := 83) d_Pr_readAtom_1 (by decide) (by rw [w19]; rfl) rfl ?_
    refine k_aload_n (pc := 84) rfl z_m2 d_Pr_readAtom_84 ?_
    refine k_iconst (pc := 85) (zi_lit rfl) d_Pr_readAtom_85 ?_
    refine k_iconst (pc := 86) (zi_lit rfl) d_Pr_readAtom_86 ?_
    obtain ⟨n17, e_n17, hf⟩ := z_bd hf
    obtain ⟨h18, e_h18, hf⟩ := z_bd hf
    refine k_callVv (pc := 87) (as := [(0, 3), (0, 0)]) (rest := []) d_Pr_readAtom_87 cw_Pr_readAtom_82 rfl (Nat.le_of_ble_eq_true rfl) (z_ck_of e_n17) (t_Pt_append e_h18) ?_
    refine k_iconst (pc := 90) (zi_lit rfl) d_Pr_readAtom_90 ?_
    cases hf
    exact k_zret (pc := 91) d_Pr_readAtom_91 rfl (Or.inr rfl)
  refine k_look (pc := 1) (tgt := 120) (off := 119) d_Pr_readAtom_1 (by decide) (by simp only [Op.lookupswitch.offset_cons, Op.lookupswitch.offset_nil, if_neg (Ne.symm w4), if_neg (Ne.symm w5), if_neg (Ne.symm w6), if_neg (Ne.symm w9), if_neg (Ne.symm w10), if_neg (Ne.symm w13), if_neg (Ne.symm w16), if_neg (Ne.symm w19)]) rfl ?_
  refine k_aload_n (pc := 120) rfl z_m2 d_Pr_readAtom_120 ?_
  refine k_iconst (pc := 121) (zi_lit rfl) d_Pr_readAtom_121 ?_
  refine k_iload_n (pc := 122) rfl z_m1 d_Pr_readAtom_122 ?_
  obtain ⟨n20, e_n20, hf⟩ := z_bd hf
  obtain ⟨h21, e_h21, hf⟩ := z_bd hf
  refine k_callVv (pc := 123) (as := [(0, 0), (0, a1)]) (rest := []) d_Pr_readAtom_123 cw_Pr_readAtom_82 rfl (Nat.le_of_ble_eq_true rfl) (z_ck_of e_n20) (t_Pt_append e_h21) ?_
  refine k_iconst (pc := 126) (zi_lit rfl) d_Pr_readAtom_126 ?_
  cases hf
  exact k_zret (pc := 127) d_Pr_readAtom_127 rfl (Or.inl rfl)
theorem t_Pr_readAtom {a0 : Nat} {a1 : Int} {a2 : Nat} {h : zH} {r : Int × zH} (hf : f_Pr_readAtom a0 a1 a2 h = some r) : zMt m_Pr_readAtom [(2, ((a0 : Nat) : Int)), (0, a1), (2, ((a2 : Nat) : Int))] h (some (0, r.1), r.2) := zMt.of (by decide) (Nat.le_of_ble_eq_true rfl) (b_Pr_readAtom_0 a0 a1 a2 h r hf)
theorem b_Pr_readNext_0 (a0 : Nat) (a1 : Nat) (h : zH) (r : zH) (hf : f_Pr_readNext a0 a1 h = some r) : zK m_Pr_readNext 0 [(0, (2, ((a0 : Nat) : Int))), (1, (2, ((a1 : Nat) : Int)))] [] h (none, r) := by
  unfold f_Pr_readNext at hf
  refine k_aload_n (pc := 0) rfl z_m0 d_Pr_readNext_0 ?_
  obtain ⟨v1, e_v1, hf⟩ := z_bd hf
  refine k_getR (pc := 1) d_Pr_readNext_1 fd_Pr_9 rfl e_v1 ?_
  refine k_aload_n (pc := 4) rfl z_m0 d_Pr_readNext_4 ?_
  obtain ⟨v2, e_v2, hf⟩ := z_bd hf
  refine k_getI (pc := 5) d_Pr_readNext_5 fd_Pr_45 rfl e_v2 ?_
  obtain ⟨v3, e_v3, hf⟩ := z_bd hf
  refine k_cald (pc := 8) d_Pr_readNext_8 e_v3 ?_
  refine k_istore_n (pc := 9) (L' := [(2, (0, v3)), (0, (2, ((a0 : Nat) : Int))), (1, (2, ((a1 : Nat) : Int)))]) rfl d_Pr_readNext_9 (Nat.le_of_ble_eq_true rfl) rfl ?_
  refine k_aload_n (pc := 10) rfl z_m1 d_Pr_readNext_10 ?_
  refine k_dup (pc := 11) (Or.inr rfl) d_Pr_readNext_11 ?_
  obtain ⟨v4, e_v4, hf⟩ := z_bd hf
  refine k_getI (pc := 12) d_Pr_readNext_12 fd_Pr_45 rfl e_v4 ?_
  refine k_iconst (pc := 15) (zi_lit rfl) d_Pr_readNext_15 ?_
  refine k_iadd (pc := 16) d_Pr_readNext_16 ?_
  obtain ⟨h5, e_h5, hf⟩ := z_bd hf
  refine k_putI (pc := 17) d_Pr_readNext_17 fd_Pr_45 (fun q => by cases q) rfl e_h5 ?_
  refine k_iload_n (pc := 20) rfl z_m0 d_Pr_readNext_20 ?_
  refine k_bipush (pc := 21) (zi_lit rfl) (by decide) d_Pr_readNext_21 ?_
  rcases z_it hf with ⟨w19, hf⟩ | ⟨w19, hf⟩
  · refine k_ic_ne_f (pc := 23) (tgt := 34) w19 d_Pr_readNext_23 rfl ?_
    refine k_aload_n (pc := 26) rfl z_m1 d_Pr_readNext_26 ?_
    refine k_aload_n (pc := 27) rfl z_m2 d_Pr_readNext_27 ?_
    obtain ⟨n17, e_n17, hf⟩ := z_bd hf
    obtain ⟨h18, e_h18, hf⟩ := z_bd hf
    refine k_callVv (pc := 28) (as := [(2, ((a1 : Nat) : Int))]) (rest := []) d_Pr_readNext_28 cw_Pr_readNext_86 rfl (Nat.le_of_ble_eq_true rfl) (z_ck_of e_n17) (t_Pr_endBranch e_h18) ?_
    refine k_goto (pc := 31) (tgt := 83) d_Pr_readNext_31 rfl ?_
    cases hf
    exact k_ret (pc := 83) d_Pr_readNext_83 rfl
  · refine k_ic_ne_t (pc := 23) (tgt := 34) w19 d_Pr_readNext_23 rfl ?_
    refine k_iload_n (pc := 34) rfl z_m0 d_Pr_readNext_34 ?_
    refine k_bipush (pc := 35) (zi_lit rfl) (by decide) d_Pr_readNext_35 ?_
    rcases z_it hf with ⟨w16, hf⟩ | ⟨w16, hf⟩
    · refine k_ic_ne_f (pc := 37) (tgt := 48) w16 d_Pr_readNext_37 rfl ?_
      refine k_aload_n (pc := 40) rfl z_m1 d_Pr_readNext_40 ?_
      refine k_aload_n (pc := 41) rfl z_m2 d_Pr_readNext_41 ?_
      obtain ⟨n14, e_n14, hf⟩ := z_bd hf
      obtain ⟨h15, e_h15, hf⟩ := z_bd hf
      refine k_callVv (pc := 42) (as := [(2, ((a1 : Nat) : Int))]) (rest := []) d_Pr_readNext_42 cw_Pr_readNext_89 rfl (Nat.le_of_ble_eq_true rfl) (z_ck_of e_n14) (t_Pr_openGroup e_h15) ?_
      refine k_goto (pc := 45) (tgt := 83) d_Pr_readNext_45 rfl ?_
      cases hf
      exact k_ret (pc := 83) d_Pr_readNext_83 rfl
    · refine k_ic_ne_t (pc := 37) (tgt := 48) w16 d_Pr_readNext_37 rfl ?_
      refine k_iload_n (pc := 48) rfl z_m0 d_Pr_readNext_48 ?_
      refine k_bipush (pc := 49) (zi_lit rfl) (by decide) d_Pr_readNext_49 ?_
      rcases z_it hf with ⟨w13, hf⟩ | ⟨w13, hf⟩
      · refine k_ic_ne_f (pc := 51) (tgt := 62) w13 d_Pr_readNext_51 rfl ?_
        refine k_aload_n (pc := 54) rfl z_m1 d_Pr_readNext_54 ?_
        refine k_aload_n (pc := 55) rfl z_m2 d_Pr_readNext_55 ?_
        obtain ⟨n11, e_n11, hf⟩ := z_bd hf
        obtain ⟨h12, e_h12, hf⟩ := z_bd hf
        refine k_callVv (pc := 56) (as := [(2, ((a1 : Nat) : Int))]) (rest := []) d_Pr_readNext_56 cw_Pr_readNext_92 rfl (Nat.le_of_ble_eq_true rfl) (z_ck_of e_n11) (t_Pr_closeGroup e_h12) ?_
        refine k_goto (pc := 59) (tgt := 83) d_Pr_readNext_59 rfl ?_
        cases hf
        exact k_ret (pc := 83) d_Pr_readNext_83 rfl
      · refine k_ic_ne_t (pc := 51) (tgt := 62) w13 d_Pr_readNext_51 rfl ?_
        refine k_aload_n (pc := 62) rfl z_m2 d_Pr_readNext_62 ?_
        obtain ⟨v6, e_v6, hf⟩ := z_bd hf
        refine k_getI (pc := 63) d_Pr_readNext_63 fd_Pr_95 rfl e_v6 ?_
        refine k_istore_n (pc := 66) (L' := [(3, (0, v6)), (2, (0, v3)), (0, (2, ((a0 : Nat) : Int))), (1, (2, ((a1 : Nat) : Int)))]) rfl d_Pr_readNext_66 (Nat.le_of_ble_eq_true rfl) rfl ?_
        refine k_aload_n (pc := 67) rfl z_m2 d_Pr_readNext_67 ?_
        refine k_iload_n (pc := 68) rfl z_m1 d_Pr_readNext_68 ?_
        refine k_aload_n (pc := 69) rfl z_m3 d_Pr_readNext_69 ?_
        obtain ⟨n7, e_n7, hf⟩ := z_bd hf
        obtain ⟨q8, e_q8, hf⟩ := z_bd hf
        refine k_callVi (pc := 70) (as := [(0, v3), (2, ((a1 : Nat) : Int))]) (rest := []) d_Pr_readNext_70 cw_Pr_readNext_96 rfl (Nat.le_of_ble_eq_true rfl) (z_ck_of e_n7) (t_Pr_readAtom e_q8) ?_
        refine k_istore (pc := 73) (L' := [(4, (0, q8.1)), (3, (0, v6)), (2, (0, v3)), (0, (2, ((a0 : Nat) : Int))), (1, (2, ((a1 : Nat) : Int)))]) d_Pr_readNext_73 (Nat.le_of_ble_eq_true rfl) rfl ?_
        refine k_aload_n (pc := 75) rfl z_m3 d_Pr_readNext_75 ?_
        refine k_iload_n (pc := 76) rfl z_m1 d_Pr_readNext_76 ?_
        refine k_iload (pc := 77) z_m0 d_Pr_readNext_77 ?_
        refine k_aload_n (pc := 79) rfl z_m4 d_Pr_readNext_79 ?_
        obtain ⟨n9, e_n9, hf⟩ := z_bd hf
        obtain ⟨h10, e_h10, hf⟩ := z_bd hf
        refine k_callVv (pc := 80) (as := [(0, v6), (0, q8.1), (2, ((a1 : Nat) : Int))]) (rest := []) d_Pr_readNext_80 cw_Pr_readNext_100 rfl (Nat.le_of_ble_eq_true rfl) (z_ck_of e_n9) (t_Pr_readQuantifier e_h10) ?_
        cases hf
        exact k_ret (pc := 83) d_Pr_readNext_83 rfl
theorem t_Pr_readNext {a0 : Nat} {a1 : Nat} {h : zH} {r : zH} (hf : f_Pr_readNext a0 a1 h = some r) : zMt m_Pr_readNext [(2, ((a0 : Nat) : Int)), (2, ((a1 : Nat) : Int))] h (none, r) := zMt.of (by decide) (Nat.le_of_ble_eq_true rfl) (b_Pr_readNext_0 a0 a1 h r hf)
theorem b_Pr_parse_117 (a0 : Nat) (a5 : Nat) (h : zH) (r : Int × zH) (hf : f_Pr_parse_117 a0 a5 h = some r) : zK m_Pr_parse 117 [(0, (2, ((a0 : Nat) : Int))), (5, (2, ((a5 : Nat) : Int)))] [] h (some (0, r.1), r.2) := by
  unfold f_Pr_parse_117 at hf
  refine k_aload_n (pc := 117) rfl z_m0 d_Pr_parse_117 ?_
  refine k_aload (pc := 118) z_m1 d_Pr_parse_118 ?_
  obtain ⟨n1, e_n1, hf⟩ := z_bd hf
  obtain ⟨q2, e_q2, hf⟩ := z_bd hf
  refine k_callVi (pc := 120) (as := [(2, ((a5 : Nat) : Int))]) (rest := []) d_Pr_parse_120 cw_Pr_parse_78 rfl (Nat.le_of_ble_eq_true rfl) (z_ck_of e_n1) (t_Pr_closeLevel e_q2) ?_
  refine k_pop (pc := 123) (Or.inl rfl) d_Pr_parse_123 ?_
  refine k_aload (pc := 124) z_m1 d_Pr_parse_124 ?_
  refine k_bipush (pc := 126) (zi_lit rfl) (by decide) d_Pr_parse_126 ?_
  refine k_iconst (pc := 128) (zi_lit rfl) d_Pr_parse_128 ?_
  obtain ⟨n3, e_n3, hf⟩ := z_bd hf
  obtain ⟨h4, e_h4, hf⟩ := z_bd hf
  refine k_callVv (pc := 129) (as := [(0, 9), (0, 0)]) (rest := []) d_Pr_parse_129 cw_Pr_parse_82 rfl (Nat.le_of_ble_eq_true rfl) (z_ck_of e_n3) (t_Pt_append e_h4) ?_
  refine k_aload_n (pc := 132) rfl z_m0 d_Pr_parse_132 ?_
  obtain ⟨v5, e_v5, hf⟩ := z_bd hf
  refine k_getI (pc := 133) d_Pr_parse_133 fd_Pr_56 rfl e_v5 ?_
  rcases z_it hf with ⟨w8, hf⟩ | ⟨w8, hf⟩
  · refine k_if_ne_f (pc := 136) (tgt := 150) w8 d_Pr_parse_136 rfl ?_
    refine k_aload_n (pc := 139) rfl z_m0 d_Pr_parse_139 ?_
    obtain ⟨v6, e_v6, hf⟩ := z_bd hf
    refine k_getI (pc := 140) d_Pr_parse_140 fd_Pr_62 rfl e_v6 ?_
    rcases z_it hf with ⟨w7, hf⟩ | ⟨w7, hf⟩
    · refine k_if_ne_f (pc := 143) (tgt := 150) w7 d_Pr_parse_143 rfl ?_
      refine k_iconst (pc := 146) (zi_lit rfl) d_Pr_parse_146 ?_
      refine k_goto (pc := 147) (tgt := 151) d_Pr_parse_147 rfl ?_
      cases hf
      exact k_zret (pc := 151) d_Pr_parse_151 rfl (Or.inr rfl)
    · refine k_if_ne_t (pc := 143) (tgt := 150) w7 d_Pr_parse_143 rfl ?_
      refine k_iconst (pc := 150) (zi_lit rfl) d_Pr_parse_150 ?_
      cases hf
      exact k_zret (pc := 151) d_Pr_parse_151 rfl (Or.inl rfl)
  · refine k_if_ne_t (pc := 136) (tgt := 150) w8 d_Pr_parse_136 rfl ?_
    refine k_iconst (pc := 150) (zi_lit rfl) d_Pr_parse_150 ?_
    cases hf
    exact k_zret (pc := 151) d_Pr_parse_151 rfl (Or.inl rfl)
theorem b_Pr_parse_80 : ∀ (n : Nat) (a0 : Nat) (a5 : Nat) (a6 : Int) (h : zH) (r : Int × zH), f_Pr_parse_80 n a0 a5 a6 h = some r → zK m_Pr_parse 80 [(0, (2, ((a0 : Nat) : Int))), (5, (2, ((a5 : Nat) : Int))), (6, (0, a6))] [] h (some (0, r.1), r.2) := by
  intro n
  induction n with
  | zero =>
    intro a0 a5 a6 h r hf
    cases hf
  | succ n ih =>
    intro a0 a5 a6 h r hf
    unfold f_Pr_parse_80 at hf
    refine k_iload (pc := 80) z_m2 d_Pr_parse_80 ?_
    refine k_bipush (pc := 82) (zi_lit rfl) (by decide) d_Pr_parse_82 ?_
    rcases z_it hf with ⟨w16, hf⟩ | ⟨w16, hf⟩
    · refine k_ic_ge_t (pc := 84) (tgt := 117) w16 d_Pr_parse_84 rfl ?_
      refine k_sub [0, 1] rfl ?_
      exact b_Pr_parse_117 a0 a5 h _ hf
    · refine k_ic_ge_f (pc := 84) (tgt := 117) w16 d_Pr_parse_84 rfl ?_
      refine k_aload_n (pc := 87) rfl z_m0 d_Pr_parse_87 ?_
      obtain ⟨v9, e_v9, hf⟩ := z_bd hf
      refine k_getI (pc := 88) d_Pr_parse_88 fd_Pr_45 rfl e_v9 ?_
      refine k_aload_n (pc := 91) rfl z_m0 d_Pr_parse_91 ?_
      obtain ⟨v10, e_v10, hf⟩ := z_bd hf
      refine k_getI (pc := 92) d_Pr_parse_92 fd_Pr_35 rfl e_v10 ?_
      rcases z_it hf with ⟨w15, hf⟩ | ⟨w15, hf⟩
      · refine k_ic_ge_t (pc := 95) (tgt := 117) w15 d_Pr_parse_95 rfl ?_
        refine k_sub [0, 1] rfl ?_
        exact b_Pr_parse_117 a0 a5 h _ hf
      · refine k_ic_ge_f (pc := 95) (tgt := 117) w15 d_Pr_parse_95 rfl ?_
        refine k_aload_n (pc := 98) rfl z_m0 d_Pr_parse_98 ?_
        obtain ⟨v11, e_v11, hf⟩ := z_bd hf
        refine k_getI (pc := 99) d_Pr_parse_99 fd_Pr_56 rfl e_v11 ?_
        rcases z_it hf with ⟨w14, hf⟩ | ⟨w14, hf⟩
        · refine k_if_ne_f (pc := 102) (tgt := 117) w14 d_Pr_parse_102 rfl ?_
          refine k_aload_n (pc := 105) rfl z_m0 d_Pr_parse_105 ?_
          refine k_aload (pc := 106) z_m1 d_Pr_parse_106 ?_
          obtain ⟨n12, e_n12, hf⟩ := z_bd hf
          obtain ⟨h13, e_h13, hf⟩ := z_bd hf
          refine k_callVv (pc := 108) (as := [(2, ((a5 : Nat) : Int))]) (rest := []) d_Pr_parse_108 cw_Pr_parse_74 rfl (Nat.le_of_ble_eq_true rfl) (z_ck_of e_n12) (t_Pr_readNext e_h13) ?_
          refine k_iinc (pc := 111) (L' := [(6, (0, zw (a6 + 1))), (0, (2, ((a0 : Nat) : Int))), (5, (2, ((a5 : Nat) : Int)))]) z_m2 d_Pr_parse_111 (Nat.le_of_ble_eq_true rfl) rfl ?_
          refine k_goto (pc := 114) (tgt := 80) d_Pr_parse_114 rfl ?_
          refine k_sub [1, 2, 0] rfl ?_
          exact ih a0 a5 (zw (a6 + 1)) h13 _ hf
        · refine k_if_ne_t (pc := 102) (tgt := 117) w14 d_Pr_parse_102 rfl ?_
          refine k_sub [0, 1] rfl ?_
          exact b_Pr_parse_117 a0 a5 h _ hf
theorem b_Pr_parse_0 (a0 : Nat) (a1 : Nat) (a2 : Int) (a3 : Int) (a4 : Int) (a5 : Nat) (h : zH) (r : Int × zH) (hf : f_Pr_parse a0 a1 a2 a3 a4 a5 h = some r) : zK m_Pr_parse 0 [(0, (2, ((a0 : Nat) : Int))), (1, (2, ((a1 : Nat) : Int))), (2, (0, a2)), (3, (0, a3)), (4, (0, a4)), (5, (2, ((a5 : Nat) : Int)))] [] h (some (0, r.1), r.2) := by
  unfold f_Pr_parse at hf
  refine k_iload_n (pc := 0) rfl z_m3 d_Pr_parse_0 ?_
  refine k_iload_n (pc := 1) rfl z_m2 d_Pr_parse_1 ?_
  refine k_isub (pc := 2) d_Pr_parse_2 ?_
  refine k_iconst (pc := 3) (zi_lit rfl) d_Pr_parse_3 ?_
  rcases z_it hf with ⟨w33, hf⟩ | ⟨w33, hf⟩
  · refine k_ic_lt_t (pc := 4) (tgt := 15) w33 d_Pr_parse_4 rfl ?_
    refine k_iconst (pc := 15) (zi_lit rfl) d_Pr_parse_15 ?_
    cases hf
    exact k_zret (pc := 16) d_Pr_parse_16 rfl (Or.inl rfl)
  · refine k_ic_lt_f (pc := 4) (tgt := 15) w33 d_Pr_parse_4 rfl ?_
    refine k_iload_n (pc := 7) rfl z_m3 d_Pr_parse_7 ?_
    refine k_iload_n (pc := 8) rfl z_m2 d_Pr_parse_8 ?_
    refine k_isub (pc := 9) d_Pr_parse_9 ?_
    refine k_bipush (pc := 10) (zi_lit rfl) (by decide) d_Pr_parse_10 ?_
    rcases z_it hf with ⟨w32, hf⟩ | ⟨w32, hf⟩
    · refine k_ic_le_t (pc := 12) (tgt := 17) w32 d_Pr_parse_12 rfl ?_
      refine k_aload_n (pc := 17) rfl z_m0 d_Pr_parse_17 ?_
      refine k_iload_n (pc := 18) rfl z_m3 d_Pr_parse_18 ?_
      refine k_iload_n (pc := 19) rfl z_m2 d_Pr_parse_19 ?_
      refine k_isub (pc := 20) d_Pr_parse_20 ?_
      obtain ⟨h17, e_h17, hf⟩ := z_bd hf
      refine k_putI (pc := 21) d_Pr_parse_21 fd_Pr_35 (fun q => by cases q) rfl e_h17 ?_
      refine k_aload_n (pc := 24) rfl z_m1 d_Pr_parse_24 ?_
      refine k_iload_n (pc := 25) rfl z_m2 d_Pr_parse_25 ?_
      refine k_aload_n (pc := 26) rfl z_m0 d_Pr_parse_26 ?_
      obtain ⟨v18, e_v18, hf⟩ := z_bd hf
      refine k_getR (pc := 27) d_Pr_parse_27 fd_Pr_9 rfl e_v18 ?_
      refine k_iconst (pc := 30) (zi_lit rfl) d_Pr_parse_30 ?_
      refine k_aload_n (pc := 31) rfl z_m0 d_Pr_parse_31 ?_
      obtain ⟨v19, e_v19, hf⟩ := z_bd hf
      refine k_getI (pc := 32) d_Pr_parse_32 fd_Pr_35 rfl e_v19 ?_
      obtain ⟨h20, e_h20, hf⟩ := z_bd hf
      refine k_copy (pc := 35) (Or.inr ⟨rfl, rfl⟩) d_Pr_parse_35 w_Pr_39 w_cp1 w_cp2 w_sys (by decide) (Nat.le_of_ble_eq_true rfl) e_h20 ?_
      refine k_aload_n (pc := 38) rfl z_m0 d_Pr_parse_38 ?_
      refine k_iconst (pc := 39) (zi_lit rfl) d_Pr_parse_39 ?_
      obtain ⟨h21, e_h21, hf⟩ := z_bd hf
      refine k_putI (pc := 40) d_Pr_parse_40 fd_Pr_45 (fun q => by cases q) rfl e_h21 ?_
      refine k_aload_n (pc := 43) rfl z_m0 d_Pr_parse_43 ?_
      refine k_iload (pc := 44) z_m4 d_Pr_parse_44 ?_
      obtain ⟨h22, e_h22, hf⟩ := z_bd hf
      refine k_putZ (pc := 46) d_Pr_parse_46 fd_Pr_48 (fun q => by cases q) rfl e_h22 ?_
      refine k_aload_n (pc := 49) rfl z_m0 d_Pr_parse_49 ?_
      refine k_aload_n (pc := 50) rfl z_m0 d_Pr_parse_50 ?_
      obtain ⟨n23, e_n23, hf⟩ := z_bd hf
      obtain ⟨q24, e_q24, hf⟩ := z_bd hf
      refine k_callVi (pc := 51) (as := []) (rest := [(2, ((a0 : Nat) : Int))]) d_Pr_parse_51 cw_Pr_parse_52 rfl (Nat.le_of_ble_eq_true rfl) (z_ck_of e_n23) (t_Pr_hasBlank e_q24) ?_
      obtain ⟨h25, e_h25, hf⟩ := z_bd hf
      refine k_putZ (pc := 54) d_Pr_parse_54 fd_Pr_56 (fun q => by cases q) rfl e_h25 ?_
      refine k_aload_n (pc := 57) rfl z_m0 d_Pr_parse_57 ?_
      refine k_iconst (pc := 58) (zi_lit rfl) d_Pr_parse_58 ?_
      obtain ⟨h26, e_h26, hf⟩ := z_bd hf
      refine k_putI (pc := 59) d_Pr_parse_59 fd_Pr_59 (fun q => by cases q) rfl e_h26 ?_
      refine k_aload_n (pc := 62) rfl z_m0 d_Pr_parse_62 ?_
      refine k_iconst (pc := 63) (zi_lit rfl) d_Pr_parse_63 ?_
      obtain ⟨h27, e_h27, hf⟩ := z_bd hf
      refine k_putI (pc := 64) d_Pr_parse_64 fd_Pr_62 (fun q => by cases q) rfl e_h27 ?_
      refine k_aload (pc := 67) z_m5 d_Pr_parse_67 ?_
      obtain ⟨n28, e_n28, hf⟩ := z_bd hf
      obtain ⟨h29, e_h29, hf⟩ := z_bd hf
      refine k_callVv (pc := 69) (as := []) (rest := []) d_Pr_parse_69 cw_Pr_parse_65 rfl (Nat.le_of_ble_eq_true rfl) (z_ck_of e_n28) (t_Pt_clear e_h29) ?_
      refine k_aload_n (pc := 72) rfl z_m0 d_Pr_parse_72 ?_
      refine k_iconst (pc := 73) (zi_lit rfl) d_Pr_parse_73 ?_
      obtain ⟨n30, e_n30, hf⟩ := z_bd hf
      obtain ⟨h31, e_h31, hf⟩ := z_bd hf
      refine k_callVv (pc := 74) (as := [(0, 0)]) (rest := []) d_Pr_parse_74 cw_Pr_parse_70 rfl (Nat.le_of_ble_eq_true rfl) (z_ck_of e_n30) (t_Pr_openLevel e_h31) ?_
      refine k_iconst (pc := 77) (zi_lit rfl) d_Pr_parse_77 ?_
      refine k_istore (pc := 78) (L' := [(6, (0, 0)), (0, (2, ((a0 : Nat) : Int))), (1, (2, ((a1 : Nat) : Int))), (2, (0, a2)), (3, (0, a3)), (4, (0, a4)), (5, (2, ((a5 : Nat) : Int)))]) d_Pr_parse_78 (Nat.le_of_ble_eq_true rfl) rfl ?_
      refine k_sub [1, 6, 0] rfl ?_
      exact b_Pr_parse_80 100000 a0 a5 0 h31 _ hf
    · refine k_ic_le_f (pc := 12) (tgt := 17) w32 d_Pr_parse_12 rfl ?_
      refine k_iconst (pc := 15) (zi_lit rfl) d_Pr_parse_15 ?_
      cases hf
      exact k_zret (pc := 16) d_Pr_parse_16 rfl (Or.inl rfl)
theorem t_Pr_parse {a0 : Nat} {a1 : Nat} {a2 : Int} {a3 : Int} {a4 : Int} {a5 : Nat} {h : zH} {r : Int × zH} (hf : f_Pr_parse a0 a1 a2 a3 a4 a5 h = some r) : zMt m_Pr_parse [(2, ((a0 : Nat) : Int)), (2, ((a1 : Nat) : Int)), (0, a2), (0, a3), (0, a4), (2, ((a5 : Nat) : Int))] h (some (0, r.1), r.2) := zMt.of (by decide) (Nat.le_of_ble_eq_true rfl) (b_Pr_parse_0 a0 a1 a2 a3 a4 a5 h r hf)
theorem b_Gr_keepNextRule_0 (a0 : Nat) (a1 : Int) (a2 : Int) (a3 : Int) (h : zH) (r : zH) (hf : f_Gr_keepNextRule a0 a1 a2 a3 h = some r) : zK m_Gr_keepNextRule 0 [(0, (2, ((a0 : Nat) : Int))), (1, (0, a1)), (2, (0, a2)), (3, (0, a3))] [] h (none, r) := by
  unfold f_Gr_keepNextRule at hf
  refine k_aload_n (pc := 0) rfl z_m0 d_Gr_keepNextRule_0 ?_
  obtain ⟨n1, e_n1, hf⟩ := z_bd hf
  obtain ⟨q2, e_q2, hf⟩ := z_bd hf
  refine k_callVr (pc := 1) (as := []) (rest := []) d_Gr_keepNextRule_1 cw_Gr_keepNextRule_49 rfl (Nat.le_of_ble_eq_true rfl) (z_ck_of e_n1) (t_Gr_nextRule e_q2) ?_
  refine k_astore (pc := 4) (L' := [(4, (2, ((q2.1 : Nat) : Int))), (0, (2, ((a0 : Nat) : Int))), (1, (0, a1)), (2, (0, a2)), (3, (0, a3))]) d_Gr_keepNextRule_4 (Nat.le_of_ble_eq_true rfl) rfl ?_
  refine k_aload (pc := 6) z_m0 d_Gr_keepNextRule_6 ?_
  refine k_iload_n (pc := 8) rfl z_m2 d_Gr_keepNextRule_8 ?_
  obtain ⟨h3, e_h3, hf⟩ := z_bd hf
  refine k_putI (pc := 9) d_Gr_keepNextRule_9 fd_Gr_53 (fun q => by cases q) rfl e_h3 ?_
  refine k_aload (pc := 12) z_m0 d_Gr_keepNextRule_12 ?_
  refine k_iload_n (pc := 14) rfl z_m3 d_Gr_keepNextRule_14 ?_
  obtain ⟨h4, e_h4, hf⟩ := z_bd hf
  refine k_putI (pc := 15) d_Gr_keepNextRule_15 fd_Gr_56 (fun q => by cases q) rfl e_h4 ?_
  refine k_aload (pc := 18) z_m0 d_Gr_keepNextRule_18 ?_
  refine k_iload_n (pc := 20) rfl z_m4 d_Gr_keepNextRule_20 ?_
  obtain ⟨h5, e_h5, hf⟩ := z_bd hf
  refine k_putZ (pc := 21) d_Gr_keepNextRule_21 fd_Gr_41 (fun q => by cases q) rfl e_h5 ?_
  refine k_aload_n (pc := 24) rfl z_m1 d_Gr_keepNextRule_24 ?_
  refine k_dup (pc := 25) (Or.inr rfl) d_Gr_keepNextRule_25 ?_
  obtain ⟨v6, e_v6, hf⟩ := z_bd hf
  refine k_getI (pc := 26) d_Gr_keepNextRule_26 fd_Gr_45 rfl e_v6 ?_
  refine k_iconst (pc := 29) (zi_lit rfl) d_Gr_keepNextRule_29 ?_
  refine k_iadd (pc := 30) d_Gr_keepNextRule_30 ?_
  obtain ⟨h7, e_h7, hf⟩ := z_bd hf
  refine k_putI (pc := 31) d_Gr_keepNextRule_31 fd_Gr_45 (fun q => by cases q) rfl e_h7 ?_
  cases hf
  exact k_ret (pc := 34) d_Gr_keepNextRule_34 rfl
theorem t_Gr_keepNextRule {a0 : Nat} {a1 : Int} {a2 : Int} {a3 : Int} {h : zH} {r : zH} (hf : f_Gr_keepNextRule a0 a1 a2 a3 h = some r) : zMt m_Gr_keepNextRule [(2, ((a0 : Nat) : Int)), (0, a1), (0, a2), (0, a3)] h (none, r) := zMt.of (by decide) (Nat.le_of_ble_eq_true rfl) (b_Gr_keepNextRule_0 a0 a1 a2 a3 h r hf)
theorem b_SL_addRule_0 (a0 : Nat) (a1 : Int) (a2 : Int) (a3 : Int) (h : zH) (r : Int × zH) (hf : f_SL_addRule a0 a1 a2 a3 h = some r) : zK m_SL_addRule 0 [(0, (2, ((a0 : Nat) : Int))), (1, (0, a1)), (2, (0, a2)), (3, (0, a3))] [] h (some (0, r.1), r.2) := by
  unfold f_SL_addRule at hf
  refine k_aload_n (pc := 0) rfl z_m0 d_SL_addRule_0 ?_
  obtain ⟨v1, e_v1, hf⟩ := z_bd hf
  refine k_getR (pc := 1) d_SL_addRule_1 fd_SL_57 rfl e_v1 ?_
  refine k_iload_n (pc := 4) rfl z_m1 d_SL_addRule_4 ?_
  refine k_iload_n (pc := 5) rfl z_m2 d_SL_addRule_5 ?_
  refine k_iload_n (pc := 6) rfl z_m3 d_SL_addRule_6 ?_
  obtain ⟨n2, e_n2, hf⟩ := z_bd hf
  obtain ⟨h3, e_h3, hf⟩ := z_bd hf
  refine k_callVv (pc := 7) (as := [(0, a1), (0, a2), (0, a3)]) (rest := []) d_SL_addRule_7 cw_SL_addRule_195 rfl (Nat.le_of_ble_eq_true rfl) (z_ck_of e_n2) (t_Gr_keepNextRule e_h3) ?_
  refine k_aload_n (pc := 10) rfl z_m0 d_SL_addRule_10 ?_
  refine k_iconst (pc := 11) (zi_lit rfl) d_SL_addRule_11 ?_
  obtain ⟨h4, e_h4, hf⟩ := z_bd hf
  refine k_putI (pc := 12) d_SL_addRule_12 fd_SL_62 (fun q => by cases q) rfl e_h4 ?_
  refine k_aload_n (pc := 15) rfl z_m0 d_SL_addRule_15 ?_
  obtain ⟨v5, e_v5, hf⟩ := z_bd hf
  refine k_getR (pc := 16) d_SL_addRule_16 fd_SL_57 rfl e_v5 ?_
  obtain ⟨v6, e_v6, hf⟩ := z_bd hf
  refine k_getI (pc := 19) d_SL_addRule_19 fd_SL_87 rfl e_v6 ?_
  cases hf
  exact k_iret (pc := 22) d_SL_addRule_22 rfl
theorem t_SL_addRule {a0 : Nat} {a1 : Int} {a2 : Int} {a3 : Int} {h : zH} {r : Int × zH} (hf : f_SL_addRule a0 a1 a2 a3 h = some r) : zMt m_SL_addRule [(2, ((a0 : Nat) : Int)), (0, a1), (0, a2), (0, a3)] h (some (0, r.1), r.2) := zMt.of (by decide) (Nat.le_of_ble_eq_true rfl) (b_SL_addRule_0 a0 a1 a2 a3 h r hf)
