/-! The bytecode comes to what the functions answer; printed by wip/gen/gen.py -/
theorem b_Mo_parse_356 (a0 : Nat) (a1 : Int) (a3 : Int) (a4 : Int) (a6 : Int) (h : zH) (r : Int × zH) (hf : f_Mo_parse_356 a0 a1 a3 a4 a6 h = some r) : zK m_Mo_parse 356 [(0, (2, ((a0 : Nat) : Int))), (1, (0, a1)), (3, (0, a3)), (4, (0, a4)), (6, (0, a6))] [] h (some (0, r.1), r.2) := by
  unfold f_Mo_parse_356 at hf
  refine k_iload (pc := 356) z_m4 d_Mo_parse_356 ?_
  rcases z_it hf with ⟨w4, hf⟩ | ⟨w4, hf⟩
  · refine k_if_lt_t (pc := 358) (tgt := 366) w4 d_Mo_parse_358 rfl ?_
    refine k_iconst (pc := 366) (zi_lit rfl) d_Mo_parse_366 ?_
    cases hf
    exact k_zret (pc := 367) d_Mo_parse_367 rfl (Or.inl rfl)
  · refine k_if_lt_f (pc := 358) (tgt := 366) w4 d_Mo_parse_358 rfl ?_
    refine k_iload (pc := 361) z_m3 d_Mo_parse_361 ?_
    rcases z_it hf with ⟨w3, hf⟩ | ⟨w3, hf⟩
    · refine k_if_le_t (pc := 363) (tgt := 368) w3 d_Mo_parse_363 rfl ?_
      refine k_aload_n (pc := 368) rfl z_m0 d_Mo_parse_368 ?_
      refine k_iload_n (pc := 369) rfl z_m1 d_Mo_parse_369 ?_
      refine k_iload_n (pc := 370) rfl z_m2 d_Mo_parse_370 ?_
      refine k_iconst (pc := 371) (zi_lit rfl) d_Mo_parse_371 ?_
      obtain ⟨n1, e_n1, hf⟩ := z_bd hf
      obtain ⟨h2, e_h2, hf⟩ := z_bd hf
      refine k_callVv (pc := 372) (as := [(0, a1), (0, a3), (0, 0)]) (rest := []) d_Mo_parse_372 cw_Mo_parse_151 rfl (Nat.le_of_ble_eq_true rfl) (z_ck_of e_n1) (t_Mo_note e_h2) ?_
      refine k_iconst (pc := 375) (zi_lit rfl) d_Mo_parse_375 ?_
      cases hf
      exact k_zret (pc := 376) d_Mo_parse_376 rfl (Or.inr rfl)
    · refine k_if_le_f (pc := 363) (tgt := 368) w3 d_Mo_parse_363 rfl ?_
      refine k_iconst (pc := 366) (zi_lit rfl) d_Mo_parse_366 ?_
      cases hf
      exact k_zret (pc := 367) d_Mo_parse_367 rfl (Or.inl rfl)
theorem b_Mo_parse_353 (c71 : Nat → Int → Int → Int → Int → Int → Int → zH → Option (Int × zH)) (k71 : ∀ (x0 : Nat) (x1 : Int) (x2 : Int) (x3 : Int) (x4 : Int) (x5 : Int) (x6 : Int) (g : zH) (r : Int × zH), c71 x0 x1 x2 x3 x4 x5 x6 g = some r → zK m_Mo_parse 71 [(0, (2, ((x0 : Nat) : Int))), (1, (0, x1)), (2, (0, x2)), (3, (0, x3)), (4, (0, x4)), (5, (0, x5)), (6, (0, x6))] [] g (some (0, r.1), r.2)) (a0 : Nat) (a1 : Int) (a2 : Int) (a3 : Int) (a4 : Int) (a5 : Int) (a6 : Int) (h : zH) (r : Int × zH) (hf : f_Mo_parse_353 c71 a0 a1 a2 a3 a4 a5 a6 h = some r) : zK m_Mo_parse 353 [(0, (2, ((a0 : Nat) : Int))), (1, (0, a1)), (2, (0, a2)), (3, (0, a3)), (4, (0, a4)), (5, (0, a5)), (6, (0, a6))] [] h (some (0, r.1), r.2) := by
  unfold f_Mo_parse_353 at hf
  refine k_goto (pc := 353) (tgt := 71) d_Mo_parse_353 rfl ?_
  exact k71 a0 a1 a2 a3 a4 a5 a6 h _ hf
theorem b_Mo_parse_218 (c71 : Nat → Int → Int → Int → Int → Int → Int → zH → Option (Int × zH)) (k71 : ∀ (x0 : Nat) (x1 : Int) (x2 : Int) (x3 : Int) (x4 : Int) (x5 : Int) (x6 : Int) (g : zH) (r : Int × zH), c71 x0 x1 x2 x3 x4 x5 x6 g = some r → zK m_Mo_parse 71 [(0, (2, ((x0 : Nat) : Int))), (1, (0, x1)), (2, (0, x2)), (3, (0, x3)), (4, (0, x4)), (5, (0, x5)), (6, (0, x6))] [] g (some (0, r.1), r.2)) (a0 : Nat) (a1 : Int) (a2 : Int) (a3 : Int) (a4 : Int) (a5 : Int) (a6 : Int) (h : zH) (r : Int × zH) (hf : f_Mo_parse_218 c71 a0 a1 a2 a3 a4 a5 a6 h = some r) : zK m_Mo_parse 218 [(0, (2, ((a0 : Nat) : Int))), (1, (0, a1)), (2, (0, a2)), (3, (0, a3)), (4, (0, a4)), (5, (0, a5)), (6, (0, a6))] [] h (some (0, r.1), r.2) := by
  unfold f_Mo_parse_218 at hf
  refine k_iinc (pc := 218) (L' := [(6, (0, zw (a6 + 1))), (0, (2, ((a0 : Nat) : Int))), (1, (0, a1)), (2, (0, a2)), (3, (0, a3)), (4, (0, a4)), (5, (0, a5))]) z_m6 d_Mo_parse_218 (Nat.le_of_ble_eq_true rfl) rfl ?_
  refine k_goto (pc := 221) (tgt := 353) d_Mo_parse_221 rfl ?_
  refine k_sub [1, 2, 3, 4, 5, 6, 0] rfl ?_
  exact b_Mo_parse_353 c71 k71 a0 a1 a2 a3 a4 a5 (zw (a6 + 1)) h _ hf
theorem b_Mo_parse_351 (c71 : Nat → Int → Int → Int → Int → Int → Int → zH → Option (Int × zH)) (k71 : ∀ (x0 : Nat) (x1 : Int) (x2 : Int) (x3 : Int) (x4 : Int) (x5 : Int) (x6 : Int) (g : zH) (r : Int × zH), c71 x0 x1 x2 x3 x4 x5 x6 g = some r → zK m_Mo_parse 71 [(0, (2, ((x0 : Nat) : Int))), (1, (0, x1)), (2, (0, x2)), (3, (0, x3)), (4, (0, x4)), (5, (0, x5)), (6, (0, x6))] [] g (some (0, r.1), r.2)) (a0 : Nat) (a1 : Int) (a2 : Int) (a3 : Int) (a4 : Int) (a5 : Int) (s0 : Int) (h : zH) (r : Int × zH) (hf : f_Mo_parse_351 c71 a0 a1 a2 a3 a4 a5 s0 h = some r) : zK m_Mo_parse 351 [(0, (2, ((a0 : Nat) : Int))), (1, (0, a1)), (2, (0, a2)), (3, (0, a3)), (4, (0, a4)), (5, (0, a5))] [(0, s0)] h (some (0, r.1), r.2) := by
  unfold f_Mo_parse_351 at hf
  refine k_istore (pc := 351) (L' := [(6, (0, s0)), (0, (2, ((a0 : Nat) : Int))), (1, (0, a1)), (2, (0, a2)), (3, (0, a3)), (4, (0, a4)), (5, (0, a5))]) d_Mo_parse_351 (Nat.le_of_ble_eq_true rfl) rfl ?_
  refine k_sub [1, 2, 3, 4, 5, 6, 0] rfl ?_
  exact b_Mo_parse_353 c71 k71 a0 a1 a2 a3 a4 a5 s0 h _ hf
theorem b_Mo_parse_327 (c71 : Nat → Int → Int → Int → Int → Int → Int → zH → Option (Int × zH)) (k71 : ∀ (x0 : Nat) (x1 : Int) (x2 : Int) (x3 : Int) (x4 : Int) (x5 : Int) (x6 : Int) (g : zH) (r : Int × zH), c71 x0 x1 x2 x3 x4 x5 x6 g = some r → zK m_Mo_parse 71 [(0, (2, ((x0 : Nat) : Int))), (1, (0, x1)), (2, (0, x2)), (3, (0, x3)), (4, (0, x4)), (5, (0, x5)), (6, (0, x6))] [] g (some (0, r.1), r.2)) (a0 : Nat) (a1 : Int) (a2 : Int) (a3 : Int) (a4 : Int) (a5 : Int) (a6 : Int) (a9 : Int) (s0 : Int) (h : zH) (r : Int × zH) (hf : f_Mo_parse_327 c71 a0 a1 a2 a3 a4 a5 a6 a9 s0 h = some r) : zK m_Mo_parse 327 [(0, (2, ((a0 : Nat) : Int))), (1, (0, a1)), (2, (0, a2)), (3, (0, a3)), (4, (0, a4)), (5, (0, a5)), (6, (0, a6)), (9, (0, a9))] [(0, s0)] h (some (0, r.1), r.2) := by
  unfold f_Mo_parse_327 at hf
  refine k_istore (pc := 327) (L' := [(10, (0, s0)), (0, (2, ((a0 : Nat) : Int))), (1, (0, a1)), (2, (0, a2)), (3, (0, a3)), (4, (0, a4)), (5, (0, a5)), (6, (0, a6)), (9, (0, a9))]) d_Mo_parse_327 (Nat.le_of_ble_eq_true rfl) rfl ?_
  refine k_iload (pc := 329) z_m8 d_Mo_parse_329 ?_
  rcases z_it hf with ⟨w7, hf⟩ | ⟨w7, hf⟩
  · refine k_if_ge_t (pc := 331) (tgt := 338) w7 d_Mo_parse_331 rfl ?_
    refine k_aload_n (pc := 338) rfl z_m1 d_Mo_parse_338 ?_
    refine k_iload_n (pc := 339) rfl z_m2 d_Mo_parse_339 ?_
    refine k_iload (pc := 340) z_m7 d_Mo_parse_340 ?_
    refine k_iload (pc := 342) z_m8 d_Mo_parse_342 ?_
    refine k_iload (pc := 344) z_m0 d_Mo_parse_344 ?_
    refine k_iload (pc := 346) z_m5 d_Mo_parse_346 ?_
    obtain ⟨n5, e_n5, hf⟩ := z_bd hf
    obtain ⟨q6, e_q6, hf⟩ := z_bd hf
    refine k_callVi (pc := 348) (as := [(0, a1), (0, a6), (0, a9), (0, s0), (0, a4)]) (rest := []) d_Mo_parse_348 cw_Mo_parse_155 rfl (Nat.le_of_ble_eq_true rfl) (z_ck_of e_n5) (t_Mo_quantified e_q6) ?_
    refine k_sub [1, 2, 3, 4, 5, 6] rfl ?_
    exact b_Mo_parse_351 c71 k71 a0 a1 a2 a3 a4 a5 q6.1 q6.2 _ hf
  · refine k_if_ge_f (pc := 331) (tgt := 338) w7 d_Mo_parse_331 rfl ?_
    refine k_iconst (pc := 334) (zi_lit rfl) d_Mo_parse_334 ?_
    refine k_goto (pc := 335) (tgt := 351) d_Mo_parse_335 rfl ?_
    refine k_sub [1, 2, 3, 4, 5, 6] rfl ?_
    exact b_Mo_parse_351 c71 k71 a0 a1 a2 a3 a4 a5 (-1) h _ hf
theorem b_Mo_parse_322 (c71 : Nat → Int → Int → Int → Int → Int → Int → zH → Option (Int × zH)) (k71 : ∀ (x0 : Nat) (x1 : Int) (x2 : Int) (x3 : Int) (x4 : Int) (x5 : Int) (x6 : Int) (g : zH) (r : Int × zH), c71 x0 x1 x2 x3 x4 x5 x6 g = some r → zK m_Mo_parse 71 [(0, (2, ((x0 : Nat) : Int))), (1, (0, x1)), (2, (0, x2)), (3, (0, x3)), (4, (0, x4)), (5, (0, x5)), (6, (0, x6))] [] g (some (0, r.1), r.2)) (a0 : Nat) (a1 : Int) (a2 : Int) (a3 : Int) (a4 : Int) (a5 : Int) (a6 : Int) (a9 : Int) (h : zH) (r : Int × zH) (hf : f_Mo_parse_322 c71 a0 a1 a2 a3 a4 a5 a6 a9 h = some r) : zK m_Mo_parse 322 [(0, (2, ((a0 : Nat) : Int))), (1, (0, a1)), (2, (0, a2)), (3, (0, a3)), (4, (0, a4)), (5, (0, a5)), (6, (0, a6)), (9, (0, a9))] [] h (some (0, r.1), r.2) := by
  unfold f_Mo_parse_322 at hf
  refine k_iconst (pc := 322) (zi_lit rfl) d_Mo_parse_322 ?_
  refine k_goto (pc := 323) (tgt := 327) d_Mo_parse_323 rfl ?_
  exact b_Mo_parse_327 c71 k71 a0 a1 a2 a3 a4 a5 a6 a9 1 h _ hf
theorem b_Mo_parse_71 : ∀ (n : Nat) (a0 : Nat) (a1 : Int) (a2 : Int) (a3 : Int) (a4 : Int) (a5 : Int) (a6 : Int) (h : zH) (r : Int × zH), f_Mo_parse_71 n a0 a1 a2 a3 a4 a5 a6 h = some r → zK m_Mo_parse 71 [(0, (2, ((a0 : Nat) : Int))), (1, (0, a1)), (2, (0, a2)), (3, (0, a3)), (4, (0, a4)), (5, (0, a5)), (6, (0, a6))] [] h (some (0, r.1), r.2) := by
  intro n
  induction n with
  | zero =>
    intro a0 a1 a2 a3 a4 a5 a6 h r hf
    cases hf
  | succ n ih =>
    intro a0 a1 a2 a3 a4 a5 a6 h r hf
    unfold f_Mo_parse_71 at hf
    refine k_iload (pc := 71) z_m6 d_Mo_parse_71 ?_
    rcases z_it hf with ⟨w48, hf⟩ | ⟨w48, hf⟩
    · refine k_if_lt_t (pc := 73) (tgt := 356) w48 d_Mo_parse_73 rfl ?_
      refine k_sub [0, 1, 3, 4, 6] rfl ?_
      exact b_Mo_parse_356 a0 a1 a3 a4 a6 h _ hf
    · refine k_if_lt_f (pc := 73) (tgt := 356) w48 d_Mo_parse_73 rfl ?_
      refine k_iload (pc := 76) z_m6 d_Mo_parse_76 ?_
      refine k_iload_n (pc := 78) rfl z_m3 d_Mo_parse_78 ?_
      rcases z_it hf with ⟨w47, hf⟩ | ⟨w47, hf⟩
      · refine k_ic_ge_t (pc := 79) (tgt := 356) w47 d_Mo_parse_79 rfl ?_
        refine k_sub [0, 1, 3, 4, 6] rfl ?_
        exact b_Mo_parse_356 a0 a1 a3 a4 a6 h _ hf
      · refine k_ic_ge_f (pc := 79) (tgt := 356) w47 d_Mo_parse_79 rfl ?_
        refine k_aload_n (pc := 82) rfl z_m0 d_Mo_parse_82 ?_
        refine k_iload_n (pc := 83) rfl z_m1 d_Mo_parse_83 ?_
        refine k_iload (pc := 84) z_m6 d_Mo_parse_84 ?_
        obtain ⟨n8, e_n8, hf⟩ := z_bd hf
        obtain ⟨q9, e_q9, hf⟩ := z_bd hf
        refine k_callVi (pc := 86) (as := [(0, a1), (0, a6)]) (rest := []) d_Mo_parse_86 cw_Mo_parse_132 rfl (Nat.le_of_ble_eq_true rfl) (z_ck_of e_n8) (t_Mo_at e_q9) ?_
        refine k_istore (pc := 89) (L' := [(7, (0, q9.1)), (0, (2, ((a0 : Nat) : Int))), (1, (0, a1)), (2, (0, a2)), (3, (0, a3)), (4, (0, a4)), (5, (0, a5)), (6, (0, a6))]) d_Mo_parse_89 (Nat.le_of_ble_eq_true rfl) rfl ?_
        refine k_bipush (pc := 91) (zi_lit rfl) (by decide) d_Mo_parse_91 ?_
        refine k_iload_n (pc := 93) rfl z_m2 d_Mo_parse_93 ?_
        refine k_imul (pc := 94) d_Mo_parse_94 ?_
        refine k_iload (pc := 95) z_m7 d_Mo_parse_95 ?_
        refine k_iadd (pc := 97) d_Mo_parse_97 ?_
        refine k_istore (pc := 98) (L' := [(8, (0, zw ((zw (21 * a1)) + a6))), (7, (0, q9.1)), (0, (2, ((a0 : Nat) : Int))), (1, (0, a1)), (2, (0, a2)), (3, (0, a3)), (4, (0, a4)), (5, (0, a5)), (6, (0, a6))]) d_Mo_parse_98 (Nat.le_of_ble_eq_true rfl) rfl ?_
        refine k_aload_n (pc := 100) rfl z_m2 d_Mo_parse_100 ?_
        obtain ⟨v10, e_v10, hf⟩ := z_bd hf
        refine k_getR (pc := 101) d_Mo_parse_101 fd_Mo_47 rfl e_v10 ?_
        refine k_iload (pc := 104) z_m0 d_Mo_parse_104 ?_
        refine k_iconst (pc := 106) (zi_lit rfl) d_Mo_parse_106 ?_
        obtain ⟨h11, e_h11, hf⟩ := z_bd hf
        refine k_iast (pc := 107) d_Mo_parse_107 e_h11 ?_
        refine k_iload (pc := 108) z_m1 d_Mo_parse_108 ?_
        refine k_bipush (pc := 110) (zi_lit rfl) (by decide) d_Mo_parse_110 ?_
        rcases z_it hf with ⟨w46, hf⟩ | ⟨w46, hf⟩
        · refine k_ic_ne_f (pc := 112) (tgt := 154) w46 d_Mo_parse_112 rfl ?_
          refine k_iinc (pc := 115) (L' := [(5, (0, zw (a5 + 1))), (8, (0, zw ((zw (21 * a1)) + a6))), (7, (0, q9.1)), (0, (2, ((a0 : Nat) : Int))), (1, (0, a1)), (2, (0, a2)), (3, (0, a3)), (4, (0, a4)), (6, (0, a6))]) z_m7 d_Mo_parse_115 (Nat.le_of_ble_eq_true rfl) rfl ?_
          refine k_iload (pc := 118) z_m0 d_Mo_parse_118 ?_
          refine k_iconst (pc := 120) (zi_lit rfl) d_Mo_parse_120 ?_
          rcases z_it hf with ⟨w45, hf⟩ | ⟨w45, hf⟩
          · refine k_ic_le_t (pc := 121) (tgt := 126) w45 d_Mo_parse_121 rfl ?_
            refine k_aload_n (pc := 126) rfl z_m3 d_Mo_parse_126 ?_
            obtain ⟨v41, e_v41, hf⟩ := z_bd hf
            refine k_getR (pc := 127) d_Mo_parse_127 fd_Mo_41 rfl e_v41 ?_
            refine k_iload (pc := 130) z_m1 d_Mo_parse_130 ?_
            refine k_iload (pc := 132) z_m0 d_Mo_parse_132 ?_
            refine k_iconst (pc := 134) (zi_lit rfl) d_Mo_parse_134 ?_
            refine k_isub (pc := 135) d_Mo_parse_135 ?_
            obtain ⟨h42, e_h42, hf⟩ := z_bd hf
            refine k_iast (pc := 136) d_Mo_parse_136 e_h42 ?_
            refine k_iinc (pc := 137) (L' := [(4, (0, zw (a4 + 1))), (5, (0, zw (a5 + 1))), (8, (0, zw ((zw (21 * a1)) + a6))), (7, (0, q9.1)), (0, (2, ((a0 : Nat) : Int))), (1, (0, a1)), (2, (0, a2)), (3, (0, a3)), (6, (0, a6))]) z_m7 d_Mo_parse_137 (Nat.le_of_ble_eq_true rfl) rfl ?_
            refine k_aload_n (pc := 140) rfl z_m4 d_Mo_parse_140 ?_
            refine k_iload (pc := 141) z_m0 d_Mo_parse_141 ?_
            refine k_iload (pc := 143) z_m8 d_Mo_parse_143 ?_
            obtain ⟨n43, e_n43, hf⟩ := z_bd hf
            obtain ⟨h44, e_h44, hf⟩ := z_bd hf
            refine k_callVv (pc := 145) (as := [(0, zw (a4 + 1)), (0, a6)]) (rest := []) d_Mo_parse_145 cw_Mo_parse_147 rfl (Nat.le_of_ble_eq_true rfl) (z_ck_of e_n43) (t_Mo_openLevel e_h44) ?_
            refine k_iinc (pc := 148) (L' := [(6, (0, zw (a6 + 1))), (4, (0, zw (a4 + 1))), (5, (0, zw (a5 + 1))), (8, (0, zw ((zw (21 * a1)) + a6))), (7, (0, q9.1)), (0, (2, ((a0 : Nat) : Int))), (1, (0, a1)), (2, (0, a2)), (3, (0, a3))]) z_m8 d_Mo_parse_148 (Nat.le_of_ble_eq_true rfl) rfl ?_
            refine k_goto (pc := 151) (tgt := 353) d_Mo_parse_151 rfl ?_
            refine k_sub [5, 6, 7, 8, 1, 2, 0] rfl ?_
            exact b_Mo_parse_353 (f_Mo_parse_71 n) ih a0 a1 a2 a3 (zw (a4 + 1)) (zw (a5 + 1)) (zw (a6 + 1)) h44 _ hf
          · refine k_ic_le_f (pc := 121) (tgt := 126) w45 d_Mo_parse_121 rfl ?_
            refine k_iconst (pc := 124) (zi_lit rfl) d_Mo_parse_124 ?_
            cases hf
            exact k_zret (pc := 125) d_Mo_parse_125 rfl (Or.inl rfl)
        · refine k_ic_ne_t (pc := 112) (tgt := 154) w46 d_Mo_parse_112 rfl ?_
          refine k_iload (pc := 154) z_m1 d_Mo_parse_154 ?_
          refine k_bipush (pc := 156) (zi_lit rfl) (by decide) d_Mo_parse_156 ?_
          rcases z_it hf with ⟨w40, hf⟩ | ⟨w40, hf⟩
          · refine k_ic_ne_f (pc := 158) (tgt := 224) w40 d_Mo_parse_158 rfl ?_
            refine k_aload_n (pc := 161) rfl z_m2 d_Mo_parse_161 ?_
            refine k_iload_n (pc := 162) rfl z_m3 d_Mo_parse_162 ?_
            refine k_iload (pc := 163) z_m8 d_Mo_parse_163 ?_
            refine k_iload (pc := 165) z_m6 d_Mo_parse_165 ?_
            obtain ⟨n29, e_n29, hf⟩ := z_bd hf
            obtain ⟨h30, e_h30, hf⟩ := z_bd hf
            refine k_callVv (pc := 167) (as := [(0, a1), (0, a6), (0, a4)]) (rest := []) d_Mo_parse_167 cw_Mo_parse_151 rfl (Nat.le_of_ble_eq_true rfl) (z_ck_of e_n29) (t_Mo_note e_h30) ?_
            refine k_aload_n (pc := 170) rfl z_m2 d_Mo_parse_170 ?_
            obtain ⟨v31, e_v31, hf⟩ := z_bd hf
            refine k_getR (pc := 171) d_Mo_parse_171 fd_Mo_56 rfl e_v31 ?_
            refine k_iload (pc := 174) z_m6 d_Mo_parse_174 ?_
            obtain ⟨v32, e_v32, hf⟩ := z_bd hf
            refine k_iald (pc := 176) d_Mo_parse_176 e_v32 ?_
            refine k_istore (pc := 177) (L' := [(9, (0, v32)), (8, (0, zw ((zw (21 * a1)) + a6))), (7, (0, q9.1)), (0, (2, ((a0 : Nat) : Int))), (1, (0, a1)), (2, (0, a2)), (3, (0, a3)), (4, (0, a4)), (5, (0, a5)), (6, (0, a6))]) d_Mo_parse_177 (Nat.le_of_ble_eq_true rfl) rfl ?_
            refine k_aload_n (pc := 179) rfl z_m3 d_Mo_parse_179 ?_
            obtain ⟨v33, e_v33, hf⟩ := z_bd hf
            refine k_getR (pc := 180) d_Mo_parse_180 fd_Mo_56 rfl e_v33 ?_
            refine k_iload (pc := 183) z_m7 d_Mo_parse_183 ?_
            refine k_iload (pc := 185) z_m9 d_Mo_parse_185 ?_
            obtain ⟨h34, e_h34, hf⟩ := z_bd hf
            refine k_iast (pc := 187) d_Mo_parse_187 e_h34 ?_
            refine k_iload (pc := 188) z_m0 d_Mo_parse_188 ?_
            rcases z_it hf with ⟨w39, hf⟩ | ⟨w39, hf⟩
            · refine k_if_ge_t (pc := 190) (tgt := 204) w39 d_Mo_parse_190 rfl ?_
              refine k_aload_n (pc := 204) rfl z_m3 d_Mo_parse_204 ?_
              obtain ⟨v35, e_v35, hf⟩ := z_bd hf
              refine k_getR (pc := 205) d_Mo_parse_205 fd_Mo_47 rfl e_v35 ?_
              refine k_bipush (pc := 208) (zi_lit rfl) (by decide) d_Mo_parse_208 ?_
              refine k_iload_n (pc := 210) rfl z_m4 d_Mo_parse_210 ?_
              refine k_imul (pc := 211) d_Mo_parse_211 ?_
              refine k_iload (pc := 212) z_m0 d_Mo_parse_212 ?_
              refine k_iadd (pc := 214) d_Mo_parse_214 ?_
              refine k_iload (pc := 215) z_m9 d_Mo_parse_215 ?_
              obtain ⟨h36, e_h36, hf⟩ := z_bd hf
              refine k_iast (pc := 217) d_Mo_parse_217 e_h36 ?_
              refine k_sub [3, 4, 5, 6, 7, 8, 9] rfl ?_
              exact b_Mo_parse_218 (f_Mo_parse_71 n) ih a0 a1 a2 a3 a4 a5 a6 h36 _ hf
            · refine k_if_ge_f (pc := 190) (tgt := 204) w39 d_Mo_parse_190 rfl ?_
              refine k_aload_n (pc := 193) rfl z_m3 d_Mo_parse_193 ?_
              obtain ⟨v37, e_v37, hf⟩ := z_bd hf
              refine k_getR (pc := 194) d_Mo_parse_194 fd_Mo_50 rfl e_v37 ?_
              refine k_iload_n (pc := 197) rfl z_m4 d_Mo_parse_197 ?_
              refine k_iload (pc := 198) z_m9 d_Mo_parse_198 ?_
              obtain ⟨h38, e_h38, hf⟩ := z_bd hf
              refine k_iast (pc := 200) d_Mo_parse_200 e_h38 ?_
              refine k_goto (pc := 201) (tgt := 218) d_Mo_parse_201 rfl ?_
              refine k_sub [3, 4, 5, 6, 7, 8, 9] rfl ?_
              exact b_Mo_parse_218 (f_Mo_parse_71 n) ih a0 a1 a2 a3 a4 a5 a6 h38 _ hf
          · refine k_ic_ne_t (pc := 158) (tgt := 224) w40 d_Mo_parse_158 rfl ?_
            refine k_iload (pc := 224) z_m1 d_Mo_parse_224 ?_
            refine k_bipush (pc := 226) (zi_lit rfl) (by decide) d_Mo_parse_226 ?_
            rcases z_it hf with ⟨w28, hf⟩ | ⟨w28, hf⟩
            · refine k_ic_ne_f (pc := 228) (tgt := 288) w28 d_Mo_parse_228 rfl ?_
              refine k_iload (pc := 231) z_m6 d_Mo_parse_231 ?_
              rcases z_it hf with ⟨w27, hf⟩ | ⟨w27, hf⟩
              · refine k_if_ne_f (pc := 233) (tgt := 238) w27 d_Mo_parse_233 rfl ?_
                refine k_iconst (pc := 236) (zi_lit rfl) d_Mo_parse_236 ?_
                cases hf
                exact k_zret (pc := 237) d_Mo_parse_237 rfl (Or.inl rfl)
              · refine k_if_ne_t (pc := 233) (tgt := 238) w27 d_Mo_parse_233 rfl ?_
                refine k_aload_n (pc := 238) rfl z_m2 d_Mo_parse_238 ?_
                refine k_iload_n (pc := 239) rfl z_m3 d_Mo_parse_239 ?_
                refine k_iload (pc := 240) z_m8 d_Mo_parse_240 ?_
                refine k_iload (pc := 242) z_m6 d_Mo_parse_242 ?_
                obtain ⟨n19, e_n19, hf⟩ := z_bd hf
                obtain ⟨h20, e_h20, hf⟩ := z_bd hf
                refine k_callVv (pc := 244) (as := [(0, a1), (0, a6), (0, a4)]) (rest := []) d_Mo_parse_244 cw_Mo_parse_151 rfl (Nat.le_of_ble_eq_true rfl) (z_ck_of e_n19) (t_Mo_note e_h20) ?_
                refine k_aload_n (pc := 247) rfl z_m2 d_Mo_parse_247 ?_
                obtain ⟨v21, e_v21, hf⟩ := z_bd hf
                refine k_getR (pc := 248) d_Mo_parse_248 fd_Mo_59 rfl e_v21 ?_
                refine k_iload (pc := 251) z_m6 d_Mo_parse_251 ?_
                obtain ⟨v22, e_v22, hf⟩ := z_bd hf
                refine k_zald (pc := 253) d_Mo_parse_253 e_v22 ?_
                refine k_istore (pc := 254) (L' := [(9, (0, v22)), (8, (0, zw ((zw (21 * a1)) + a6))), (7, (0, q9.1)), (0, (2, ((a0 : Nat) : Int))), (1, (0, a1)), (2, (0, a2)), (3, (0, a3)), (4, (0, a4)), (5, (0, a5)), (6, (0, a6))]) d_Mo_parse_254 (Nat.le_of_ble_eq_true rfl) rfl ?_
                refine k_aload_n (pc := 256) rfl z_m3 d_Mo_parse_256 ?_
                obtain ⟨v23, e_v23, hf⟩ := z_bd hf
                refine k_getR (pc := 257) d_Mo_parse_257 fd_Mo_53 rfl e_v23 ?_
                refine k_iload (pc := 260) z_m7 d_Mo_parse_260 ?_
                obtain ⟨v24, e_v24, hf⟩ := z_bd hf
                refine k_iald (pc := 262) d_Mo_parse_262 e_v24 ?_
                refine k_istore (pc := 263) (L' := [(10, (0, v24)), (9, (0, v22)), (8, (0, zw ((zw (21 * a1)) + a6))), (7, (0, q9.1)), (0, (2, ((a0 : Nat) : Int))), (1, (0, a1)), (2, (0, a2)), (3, (0, a3)), (4, (0, a4)), (5, (0, a5)), (6, (0, a6))]) d_Mo_parse_263 (Nat.le_of_ble_eq_true rfl) rfl ?_
                refine k_iinc (pc := 265) (L' := [(4, (0, zw (a4 + (-1)))), (10, (0, v24)), (9, (0, v22)), (8, (0, zw ((zw (21 * a1)) + a6))), (7, (0, q9.1)), (0, (2, ((a0 : Nat) : Int))), (1, (0, a1)), (2, (0, a2)), (3, (0, a3)), (5, (0, a5)), (6, (0, a6))]) z_m8 d_Mo_parse_265 (Nat.le_of_ble_eq_true rfl) rfl ?_
                refine k_aload_n (pc := 268) rfl z_m5 d_Mo_parse_268 ?_
                refine k_iload_n (pc := 269) rfl z_m6 d_Mo_parse_269 ?_
                refine k_iload (pc := 270) z_m1 d_Mo_parse_270 ?_
                refine k_iload (pc := 272) z_m10 d_Mo_parse_272 ?_
                refine k_iconst (pc := 274) (zi_lit rfl) d_Mo_parse_274 ?_
                refine k_iadd (pc := 275) d_Mo_parse_275 ?_
                refine k_iload (pc := 276) z_m2 d_Mo_parse_276 ?_
                refine k_iload (pc := 278) z_m0 d_Mo_parse_278 ?_
                obtain ⟨n25, e_n25, hf⟩ := z_bd hf
                obtain ⟨q26, e_q26, hf⟩ := z_bd hf
                refine k_callVi (pc := 280) (as := [(0, a1), (0, v24), (0, zw (a6 + 1)), (0, v22), (0, zw (a4 + (-1)))]) (rest := []) d_Mo_parse_280 cw_Mo_parse_155 rfl (Nat.le_of_ble_eq_true rfl) (z_ck_of e_n25) (t_Mo_quantified e_q26) ?_
                refine k_istore (pc := 283) (L' := [(6, (0, q26.1)), (4, (0, zw (a4 + (-1)))), (10, (0, v24)), (9, (0, v22)), (8, (0, zw ((zw (21 * a1)) + a6))), (7, (0, q9.1)), (0, (2, ((a0 : Nat) : Int))), (1, (0, a1)), (2, (0, a2)), (3, (0, a3)), (5, (0, a5))]) d_Mo_parse_283 (Nat.le_of_ble_eq_true rfl) rfl ?_
                refine k_goto (pc := 285) (tgt := 353) d_Mo_parse_285 rfl ?_
                refine k_sub [6, 7, 8, 9, 1, 10, 0] rfl ?_
                exact b_Mo_parse_353 (f_Mo_parse_71 n) ih a0 a1 a2 a3 (zw (a4 + (-1))) a5 q26.1 q26.2 _ hf
            · refine k_ic_ne_t (pc := 228) (tgt := 288) w28 d_Mo_parse_228 rfl ?_
              refine k_aload_n (pc := 288) rfl z_m2 d_Mo_parse_288 ?_
              refine k_iload_n (pc := 289) rfl z_m3 d_Mo_parse_289 ?_
              refine k_iload (pc := 290) z_m8 d_Mo_parse_290 ?_
              refine k_iload_n (pc := 292) rfl z_m4 d_Mo_parse_292 ?_
              obtain ⟨n12, e_n12, hf⟩ := z_bd hf
              obtain ⟨q13, e_q13, hf⟩ := z_bd hf
              refine k_callVi (pc := 293) (as := [(0, a1), (0, a6), (0, a2)]) (rest := []) d_Mo_parse_293 cw_Mo_parse_159 rfl (Nat.le_of_ble_eq_true rfl) (z_ck_of e_n12) (t_Mo_simple e_q13) ?_
              refine k_istore (pc := 296) (L' := [(9, (0, q13.1)), (8, (0, zw ((zw (21 * a1)) + a6))), (7, (0, q9.1)), (0, (2, ((a0 : Nat) : Int))), (1, (0, a1)), (2, (0, a2)), (3, (0, a3)), (4, (0, a4)), (5, (0, a5)), (6, (0, a6))]) d_Mo_parse_296 (Nat.le_of_ble_eq_true rfl) rfl ?_
              refine k_iload (pc := 298) z_m2 d_Mo_parse_298 ?_
              refine k_bipush (pc := 300) (zi_lit rfl) (by decide) d_Mo_parse_300 ?_
              rcases z_it hf with ⟨w18, hf⟩ | ⟨w18, hf⟩
              · refine k_ic_eq_t (pc := 302) (tgt := 322) w18 d_Mo_parse_302 rfl ?_
                refine k_sub [3, 4, 5, 6, 7, 8, 9, 0] rfl ?_
                exact b_Mo_parse_322 (f_Mo_parse_71 n) ih a0 a1 a2 a3 a4 a5 a6 q13.1 q13.2 _ hf
              · refine k_ic_eq_f (pc := 302) (tgt := 322) w18 d_Mo_parse_302 rfl ?_
                refine k_iload (pc := 305) z_m2 d_Mo_parse_305 ?_
                refine k_bipush (pc := 307) (zi_lit rfl) (by decide) d_Mo_parse_307 ?_
                rcases z_it hf with ⟨w17, hf⟩ | ⟨w17, hf⟩
                · refine k_ic_eq_t (pc := 309) (tgt := 322) w17 d_Mo_parse_309 rfl ?_
                  refine k_sub [3, 4, 5, 6, 7, 8, 9, 0] rfl ?_
                  exact b_Mo_parse_322 (f_Mo_parse_71 n) ih a0 a1 a2 a3 a4 a5 a6 q13.1 q13.2 _ hf
                · refine k_ic_eq_f (pc := 309) (tgt := 322) w17 d_Mo_parse_309 rfl ?_
                  refine k_aload_n (pc := 312) rfl z_m3 d_Mo_parse_312 ?_
                  refine k_iload_n (pc := 313) rfl z_m4 d_Mo_parse_313 ?_
                  refine k_iload (pc := 314) z_m9 d_Mo_parse_314 ?_
                  obtain ⟨n14, e_n14, hf⟩ := z_bd hf
                  obtain ⟨q15, e_q15, hf⟩ := z_bd hf
                  refine k_callVi (pc := 316) (as := [(0, a1), (0, a6)]) (rest := []) d_Mo_parse_316 cw_Mo_parse_143 rfl (Nat.le_of_ble_eq_true rfl) (z_ck_of e_n14) (t_Mo_isRef e_q15) ?_
                  rcases z_it hf with ⟨w16, hf⟩ | ⟨w16, hf⟩
                  · refine k_if_eq_t (pc := 319) (tgt := 326) w16 d_Mo_parse_319 rfl ?_
                    refine k_iconst (pc := 326) (zi_lit rfl) d_Mo_parse_326 ?_
                    refine k_sub [3, 4, 5, 6, 7, 8, 9, 0] rfl ?_
                    exact b_Mo_parse_327 (f_Mo_parse_71 n) ih a0 a1 a2 a3 a4 a5 a6 q13.1 0 q15.2 _ hf
                  · refine k_if_eq_f (pc := 319) (tgt := 326) w16 d_Mo_parse_319 rfl ?_
                    refine k_sub [3, 4, 5, 6, 7, 8, 9, 0] rfl ?_
                    exact b_Mo_parse_322 (f_Mo_parse_71 n) ih a0 a1 a2 a3 a4 a5 a6 q13.1 q15.2 _ hf
theorem b_Mo_parse_10 : ∀ (n : Nat) (a0 : Nat) (a1 : Int) (a2 : Int) (a3 : Int) (a4 : Int) (h : zH) (r : Int × zH), f_Mo_parse_10 n a0 a1 a2 a3 a4 h = some r → zK m_Mo_parse 10 [(0, (2, ((a0 : Nat) : Int))), (1, (0, a1)), (2, (0, a2)), (3, (0, a3)), (4, (0, a4))] [] h (some (0, r.1), r.2) := by
  intro n
  induction n with
  | zero =>
    intro a0 a1 a2 a3 a4 h r hf
    cases hf
  | succ n ih =>
    intro a0 a1 a2 a3 a4 h r hf
    unfold f_Mo_parse_10 at hf
    refine k_iload (pc := 10) z_m4 d_Mo_parse_10 ?_
    refine k_iload_n (pc := 12) rfl z_m3 d_Mo_parse_12 ?_
    rcases z_it hf with ⟨w58, hf⟩ | ⟨w58, hf⟩
    · refine k_ic_ge_t (pc := 13) (tgt := 36) w58 d_Mo_parse_13 rfl ?_
      refine k_iload_n (pc := 36) rfl z_m3 d_Mo_parse_36 ?_
      refine k_iconst (pc := 37) (zi_lit rfl) d_Mo_parse_37 ?_
      rcases z_it hf with ⟨w54, hf⟩ | ⟨w54, hf⟩
      · refine k_ic_lt_t (pc := 38) (tgt := 47) w54 d_Mo_parse_38 rfl ?_
        refine k_iconst (pc := 47) (zi_lit rfl) d_Mo_parse_47 ?_
        cases hf
        exact k_zret (pc := 48) d_Mo_parse_48 rfl (Or.inl rfl)
      · refine k_ic_lt_f (pc := 38) (tgt := 47) w54 d_Mo_parse_38 rfl ?_
        refine k_iload_n (pc := 41) rfl z_m3 d_Mo_parse_41 ?_
        refine k_bipush (pc := 42) (zi_lit rfl) (by decide) d_Mo_parse_42 ?_
        rcases z_it hf with ⟨w53, hf⟩ | ⟨w53, hf⟩
        · refine k_ic_le_t (pc := 44) (tgt := 49) w53 d_Mo_parse_44 rfl ?_
          refine k_iconst (pc := 49) (zi_lit rfl) d_Mo_parse_49 ?_
          refine k_istore (pc := 50) (L' := [(4, (0, 0)), (0, (2, ((a0 : Nat) : Int))), (1, (0, a1)), (2, (0, a2)), (3, (0, a3))]) d_Mo_parse_50 (Nat.le_of_ble_eq_true rfl) rfl ?_
          refine k_iconst (pc := 52) (zi_lit rfl) d_Mo_parse_52 ?_
          refine k_istore (pc := 53) (L' := [(5, (0, 0)), (4, (0, 0)), (0, (2, ((a0 : Nat) : Int))), (1, (0, a1)), (2, (0, a2)), (3, (0, a3))]) d_Mo_parse_53 (Nat.le_of_ble_eq_true rfl) rfl ?_
          refine k_aload_n (pc := 55) rfl z_m2 d_Mo_parse_55 ?_
          refine k_iconst (pc := 56) (zi_lit rfl) d_Mo_parse_56 ?_
          refine k_iconst (pc := 57) (zi_lit rfl) d_Mo_parse_57 ?_
          obtain ⟨n49, e_n49, hf⟩ := z_bd hf
          obtain ⟨h50, e_h50, hf⟩ := z_bd hf
          refine k_callVv (pc := 58) (as := [(0, 0), (0, (-1))]) (rest := []) d_Mo_parse_58 cw_Mo_parse_147 rfl (Nat.le_of_ble_eq_true rfl) (z_ck_of e_n49) (t_Mo_openLevel e_h50) ?_
          refine k_aload_n (pc := 61) rfl z_m2 d_Mo_parse_61 ?_
          obtain ⟨v51, e_v51, hf⟩ := z_bd hf
          refine k_getR (pc := 62) d_Mo_parse_62 fd_Mo_50 rfl e_v51 ?_
          refine k_iload_n (pc := 65) rfl z_m3 d_Mo_parse_65 ?_
          refine k_iconst (pc := 66) (zi_lit rfl) d_Mo_parse_66 ?_
          obtain ⟨h52, e_h52, hf⟩ := z_bd hf
          refine k_iast (pc := 67) d_Mo_parse_67 e_h52 ?_
          refine k_iconst (pc := 68) (zi_lit rfl) d_Mo_parse_68 ?_
          refine k_istore (pc := 69) (L' := [(6, (0, 0)), (5, (0, 0)), (4, (0, 0)), (0, (2, ((a0 : Nat) : Int))), (1, (0, a1)), (2, (0, a2)), (3, (0, a3))]) d_Mo_parse_69 (Nat.le_of_ble_eq_true rfl) rfl ?_
          refine k_sub [3, 4, 5, 6, 2, 1, 0] rfl ?_
          exact b_Mo_parse_71 100000 a0 a1 a2 a3 0 0 0 h52 _ hf
        · refine k_ic_le_f (pc := 44) (tgt := 49) w53 d_Mo_parse_44 rfl ?_
          refine k_iconst (pc := 47) (zi_lit rfl) d_Mo_parse_47 ?_
          cases hf
          exact k_zret (pc := 48) d_Mo_parse_48 rfl (Or.inl rfl)
    · refine k_ic_ge_f (pc := 13) (tgt := 36) w58 d_Mo_parse_13 rfl ?_
      refine k_aload_n (pc := 16) rfl z_m0 d_Mo_parse_16 ?_
      refine k_iload_n (pc := 17) rfl z_m1 d_Mo_parse_17 ?_
      refine k_iload (pc := 18) z_m4 d_Mo_parse_18 ?_
      obtain ⟨n55, e_n55, hf⟩ := z_bd hf
      obtain ⟨q56, e_q56, hf⟩ := z_bd hf
      refine k_callVi (pc := 20) (as := [(0, a1), (0, a4)]) (rest := []) d_Mo_parse_20 cw_Mo_parse_132 rfl (Nat.le_of_ble_eq_true rfl) (z_ck_of e_n55) (t_Mo_at e_q56) ?_
      refine k_bipush (pc := 23) (zi_lit rfl) (by decide) d_Mo_parse_23 ?_
      rcases z_it hf with ⟨w57, hf⟩ | ⟨w57, hf⟩
      · refine k_ic_ne_f (pc := 25) (tgt := 30) w57 d_Mo_parse_25 rfl ?_
        refine k_iconst (pc := 28) (zi_lit rfl) d_Mo_parse_28 ?_
        cases hf
        exact k_zret (pc := 29) d_Mo_parse_29 rfl (Or.inl rfl)
      · refine k_ic_ne_t (pc := 25) (tgt := 30) w57 d_Mo_parse_25 rfl ?_
        refine k_iinc (pc := 30) (L' := [(4, (0, zw (a4 + 1))), (0, (2, ((a0 : Nat) : Int))), (1, (0, a1)), (2, (0, a2)), (3, (0, a3))]) z_m4 d_Mo_parse_30 (Nat.le_of_ble_eq_true rfl) rfl ?_
        refine k_goto (pc := 33) (tgt := 10) d_Mo_parse_33 rfl ?_
        refine k_sub [1, 2, 3, 4, 0] rfl ?_
        exact ih a0 a1 a2 a3 (zw (a4 + 1)) q56.2 _ hf
theorem b_Mo_parse_0 (a0 : Nat) (a1 : Int) (a2 : Int) (h : zH) (r : Int × zH) (hf : f_Mo_parse a0 a1 a2 h = some r) : zK m_Mo_parse 0 [(0, (2, ((a0 : Nat) : Int))), (1, (0, a1)), (2, (0, a2))] [] h (some (0, r.1), r.2) := by
  unfold f_Mo_parse at hf
  refine k_aload_n (pc := 0) rfl z_m0 d_Mo_parse_0 ?_
  obtain ⟨v59, e_v59, hf⟩ := z_bd hf
  refine k_getR (pc := 1) d_Mo_parse_1 fd_Mo_26 rfl e_v59 ?_
  refine k_iload_n (pc := 4) rfl z_m1 d_Mo_parse_4 ?_
  obtain ⟨v60, e_v60, hf⟩ := z_bd hf
  refine k_iald (pc := 5) d_Mo_parse_5 e_v60 ?_
  refine k_istore_n (pc := 6) (L' := [(3, (0, v60)), (0, (2, ((a0 : Nat) : Int))), (1, (0, a1)), (2, (0, a2))]) rfl d_Mo_parse_6 (Nat.le_of_ble_eq_true rfl) rfl ?_
  refine k_iconst (pc := 7) (zi_lit rfl) d_Mo_parse_7 ?_
  refine k_istore (pc := 8) (L' := [(4, (0, 0)), (3, (0, v60)), (0, (2, ((a0 : Nat) : Int))), (1, (0, a1)), (2, (0, a2))]) d_Mo_parse_8 (Nat.le_of_ble_eq_true rfl) rfl ?_
  refine k_sub [2, 3, 4, 1, 0] rfl ?_
  exact b_Mo_parse_10 100000 a0 a1 a2 v60 0 h _ hf
theorem t_Mo_parse {a0 : Nat} {a1 : Int} {a2 : Int} {h : zH} {r : Int × zH} (hf : f_Mo_parse a0 a1 a2 h = some r) : zMt m_Mo_parse [(2, ((a0 : Nat) : Int)), (0, a1), (0, a2)] h (some (0, r.1), r.2) := zMt.of (by decide) (Nat.le_of_ble_eq_true rfl) (b_Mo_parse_0 a0 a1 a2 h r hf)
theorem b_Mo_inItems_161 (c54 : Nat → Int → Int → Int → Int → Int → Int → zH → Option (Int × zH)) (k54 : ∀ (x0 : Nat) (x1 : Int) (x3 : Int) (x4 : Int) (x5 : Int) (x6 : Int) (x7 : Int) (g : zH) (r : Int × zH), c54 x0 x1 x3 x4 x5 x6 x7 g = some r → zK m_Mo_inItems 54 [(0, (2, ((x0 : Nat) : Int))), (1, (0, x1)), (3, (0, x3)), (4, (0, x4)), (5, (0, x5)), (6, (0, x6)), (7, (0, x7))] [] g (some (0, r.1), r.2)) (a0 : Nat) (a1 : Int) (a3 : Int) (a4 : Int) (a6 : Int) (a7 : Int) (s0 : Int) (h : zH) (r : Int × zH) (hf : f_Mo_inItems_161 c54 a0 a1 a3 a4 a6 a7 s0 h = some r) : zK m_Mo_inItems 161 [(0, (2, ((a0 : Nat) : Int))), (1, (0, a1)), (3, (0, a3)), (4, (0, a4)), (6, (0, a6)), (7, (0, a7))] [(0, s0)] h (some (0, r.1), r.2) := by
  unfold f_Mo_inItems_161 at hf
  refine k_istore (pc := 161) (L' := [(5, (0, s0)), (0, (2, ((a0 : Nat) : Int))), (1, (0, a1)), (3, (0, a3)), (4, (0, a4)), (6, (0, a6)), (7, (0, a7))]) d_Mo_inItems_161 (Nat.le_of_ble_eq_true rfl) rfl ?_
  refine k_goto (pc := 163) (tgt := 54) d_Mo_inItems_163 rfl ?_
  refine k_sub [1, 2, 3, 4, 0, 5, 6] rfl ?_
  exact k54 a0 a1 a3 a4 s0 a6 a7 h _ hf
theorem b_Mo_inItems_143 (c54 : Nat → Int → Int → Int → Int → Int → Int → zH → Option (Int × zH)) (k54 : ∀ (x0 : Nat) (x1 : Int) (x3 : Int) (x4 : Int) (x5 : Int) (x6 : Int) (x7 : Int) (g : zH) (r : Int × zH), c54 x0 x1 x3 x4 x5 x6 x7 g = some r → zK m_Mo_inItems 54 [(0, (2, ((x0 : Nat) : Int))), (1, (0, x1)), (3, (0, x3)), (4, (0, x4)), (5, (0, x5)), (6, (0, x6)), (7, (0, x7))] [] g (some (0, r.1), r.2)) (a0 : Nat) (a1 : Int) (a3 : Int) (a4 : Int) (a5 : Int) (a7 : Int) (a8 : Int) (s0 : Int) (h : zH) (r : Int × zH) (hf : f_Mo_inItems_143 c54 a0 a1 a3 a4 a5 a7 a8 s0 h = some r) : zK m_Mo_inItems 143 [(0, (2, ((a0 : Nat) : Int))), (1, (0, a1)), (3, (0, a3)), (4, (0, a4)), (5, (0, a5)), (7, (0, a7)), (8, (0, a8))] [(0, s0)] h (some (0, r.1), r.2) := by
  unfold f_Mo_inItems_143 at hf
  refine k_istore (pc := 143) (L' := [(6, (0, s0)), (0, (2, ((a0 : Nat) : Int))), (1, (0, a1)), (3, (0, a3)), (4, (0, a4)), (5, (0, a5)), (7, (0, a7)), (8, (0, a8))]) d_Mo_inItems_143 (Nat.le_of_ble_eq_true rfl) rfl ?_
  refine k_iload (pc := 145) z_m7 d_Mo_inItems_145 ?_
  rcases z_it hf with ⟨w1, hf⟩ | ⟨w1, hf⟩
  · refine k_if_eq_t (pc := 147) (tgt := 157) w1 d_Mo_inItems_147 rfl ?_
    refine k_iload (pc := 157) z_m5 d_Mo_inItems_157 ?_
    refine k_iconst (pc := 159) (zi_lit rfl) d_Mo_inItems_159 ?_
    refine k_iadd (pc := 160) d_Mo_inItems_160 ?_
    refine k_sub [1, 2, 3, 4, 0, 6] rfl ?_
    exact b_Mo_inItems_161 c54 k54 a0 a1 a3 a4 s0 a7 (zw (a5 + 1)) h _ hf
  · refine k_if_eq_f (pc := 147) (tgt := 157) w1 d_Mo_inItems_147 rfl ?_
    refine k_iload (pc := 150) z_m5 d_Mo_inItems_150 ?_
    refine k_iconst (pc := 152) (zi_lit rfl) d_Mo_inItems_152 ?_
    refine k_iadd (pc := 153) d_Mo_inItems_153 ?_
    refine k_goto (pc := 154) (tgt := 161) d_Mo_inItems_154 rfl ?_
    refine k_sub [1, 2, 3, 4, 0, 6] rfl ?_
    exact b_Mo_inItems_161 c54 k54 a0 a1 a3 a4 s0 a7 (zw (a5 + 3)) h _ hf
theorem b_Mo_inItems_138 (c54 : Nat → Int → Int → Int → Int → Int → Int → zH → Option (Int × zH)) (k54 : ∀ (x0 : Nat) (x1 : Int) (x3 : Int) (x4 : Int) (x5 : Int) (x6 : Int) (x7 : Int) (g : zH) (r : Int × zH), c54 x0 x1 x3 x4 x5 x6 x7 g = some r → zK m_Mo_inItems 54 [(0, (2, ((x0 : Nat) : Int))), (1, (0, x1)), (3, (0, x3)), (4, (0, x4)), (5, (0, x5)), (6, (0, x6)), (7, (0, x7))] [] g (some (0, r.1), r.2)) (a0 : Nat) (a1 : Int) (a3 : Int) (a4 : Int) (a5 : Int) (a7 : Int) (a8 : Int) (h : zH) (r : Int × zH) (hf : f_Mo_inItems_138 c54 a0 a1 a3 a4 a5 a7 a8 h = some r) : zK m_Mo_inItems 138 [(0, (2, ((a0 : Nat) : Int))), (1, (0, a1)), (3, (0, a3)), (4, (0, a4)), (5, (0, a5)), (7, (0, a7)), (8, (0, a8))] [] h (some (0, r.1), r.2) := by
  unfold f_Mo_inItems_138 at hf
  refine k_iconst (pc := 138) (zi_lit rfl) d_Mo_inItems_138 ?_
  refine k_goto (pc := 139) (tgt := 143) d_Mo_inItems_139 rfl ?_
  exact b_Mo_inItems_143 c54 k54 a0 a1 a3 a4 a5 a7 a8 1 h _ hf
theorem b_Mo_inItems_142 (c54 : Nat → Int → Int → Int → Int → Int → Int → zH → Option (Int × zH)) (k54 : ∀ (x0 : Nat) (x1 : Int) (x3 : Int) (x4 : Int) (x5 : Int) (x6 : Int) (x7 : Int) (g : zH) (r : Int × zH), c54 x0 x1 x3 x4 x5 x6 x7 g = some r → zK m_Mo_inItems 54 [(0, (2, ((x0 : Nat) : Int))), (1, (0, x1)), (3, (0, x3)), (4, (0, x4)), (5, (0, x5)), (6, (0, x6)), (7, (0, x7))] [] g (some (0, r.1), r.2)) (a0 : Nat) (a1 : Int) (a3 : Int) (a4 : Int) (a5 : Int) (a7 : Int) (a8 : Int) (h : zH) (r : Int × zH) (hf : f_Mo_inItems_142 c54 a0 a1 a3 a4 a5 a7 a8 h = some r) : zK m_Mo_inItems 142 [(0, (2, ((a0 : Nat) : Int))), (1, (0, a1)), (3, (0, a3)), (4, (0, a4)), (5, (0, a5)), (7, (0, a7)), (8, (0, a8))] [] h (some (0, r.1), r.2) := by
  unfold f_Mo_inItems_142 at hf
  refine k_iconst (pc := 142) (zi_lit rfl) d_Mo_inItems_142 ?_
  exact b_Mo_inItems_143 c54 k54 a0 a1 a3 a4 a5 a7 a8 0 h _ hf
theorem b_Mo_inItems_119 (c54 : Nat → Int → Int → Int → Int → Int → Int → zH → Option (Int × zH)) (k54 : ∀ (x0 : Nat) (x1 : Int) (x3 : Int) (x4 : Int) (x5 : Int) (x6 : Int) (x7 : Int) (g : zH) (r : Int × zH), c54 x0 x1 x3 x4 x5 x6 x7 g = some r → zK m_Mo_inItems 54 [(0, (2, ((x0 : Nat) : Int))), (1, (0, x1)), (3, (0, x3)), (4, (0, x4)), (5, (0, x5)), (6, (0, x6)), (7, (0, x7))] [] g (some (0, r.1), r.2)) (a0 : Nat) (a1 : Int) (a3 : Int) (a4 : Int) (a5 : Int) (a6 : Int) (a7 : Int) (a8 : Int) (a9 : Int) (s0 : Int) (h : zH) (r : Int × zH) (hf : f_Mo_inItems_119 c54 a0 a1 a3 a4 a5 a6 a7 a8 a9 s0 h = some r) : zK m_Mo_inItems 119 [(0, (2, ((a0 : Nat) : Int))), (1, (0, a1)), (3, (0, a3)), (4, (0, a4)), (5, (0, a5)), (6, (0, a6)), (7, (0, a7)), (8, (0, a8)), (9, (0, a9))] [(0, s0)] h (some (0, r.1), r.2) := by
  unfold f_Mo_inItems_119 at hf
  refine k_istore (pc := 119) (L' := [(10, (0, s0)), (0, (2, ((a0 : Nat) : Int))), (1, (0, a1)), (3, (0, a3)), (4, (0, a4)), (5, (0, a5)), (6, (0, a6)), (7, (0, a7)), (8, (0, a8)), (9, (0, a9))]) d_Mo_inItems_119 (Nat.le_of_ble_eq_true rfl) rfl ?_
  refine k_iload (pc := 121) z_m6 d_Mo_inItems_121 ?_
  rcases z_it hf with ⟨w4, hf⟩ | ⟨w4, hf⟩
  · refine k_if_ne_f (pc := 123) (tgt := 138) w4 d_Mo_inItems_123 rfl ?_
    refine k_iload_n (pc := 126) rfl z_m3 d_Mo_inItems_126 ?_
    refine k_iload (pc := 127) z_m9 d_Mo_inItems_127 ?_
    rcases z_it hf with ⟨w3, hf⟩ | ⟨w3, hf⟩
    · refine k_ic_lt_t (pc := 129) (tgt := 142) w3 d_Mo_inItems_129 rfl ?_
      refine k_sub [1, 2, 3, 4, 5, 7, 8] rfl ?_
      exact b_Mo_inItems_142 c54 k54 a0 a1 a3 a4 a5 a7 a8 h _ hf
    · refine k_ic_lt_f (pc := 129) (tgt := 142) w3 d_Mo_inItems_129 rfl ?_
      refine k_iload_n (pc := 132) rfl z_m3 d_Mo_inItems_132 ?_
      refine k_iload (pc := 133) z_m0 d_Mo_inItems_133 ?_
      rcases z_it hf with ⟨w2, hf⟩ | ⟨w2, hf⟩
      · refine k_ic_gt_t (pc := 135) (tgt := 142) w2 d_Mo_inItems_135 rfl ?_
        refine k_sub [1, 2, 3, 4, 5, 7, 8] rfl ?_
        exact b_Mo_inItems_142 c54 k54 a0 a1 a3 a4 a5 a7 a8 h _ hf
      · refine k_ic_gt_f (pc := 135) (tgt := 142) w2 d_Mo_inItems_135 rfl ?_
        refine k_sub [1, 2, 3, 4, 5, 7, 8] rfl ?_
        exact b_Mo_inItems_138 c54 k54 a0 a1 a3 a4 a5 a7 a8 h _ hf
  · refine k_if_ne_t (pc := 123) (tgt := 138) w4 d_Mo_inItems_123 rfl ?_
    refine k_sub [1, 2, 3, 4, 5, 7, 8] rfl ?_
    exact b_Mo_inItems_138 c54 k54 a0 a1 a3 a4 a5 a7 a8 h _ hf
theorem b_Mo_inItems_89 (c54 : Nat → Int → Int → Int → Int → Int → Int → zH → Option (Int × zH)) (k54 : ∀ (x0 : Nat) (x1 : Int) (x3 : Int) (x4 : Int) (x5 : Int) (x6 : Int) (x7 : Int) (g : zH) (r : Int × zH), c54 x0 x1 x3 x4 x5 x6 x7 g = some r → zK m_Mo_inItems 54 [(0, (2, ((x0 : Nat) : Int))), (1, (0, x1)), (3, (0, x3)), (4, (0, x4)), (5, (0, x5)), (6, (0, x6)), (7, (0, x7))] [] g (some (0, r.1), r.2)) (a0 : Nat) (a1 : Int) (a3 : Int) (a4 : Int) (a5 : Int) (a6 : Int) (a7 : Int) (s0 : Int) (h : zH) (r : Int × zH) (hf : f_Mo_inItems_89 c54 a0 a1 a3 a4 a5 a6 a7 s0 h = some r) : zK m_Mo_inItems 89 [(0, (2, ((a0 : Nat) : Int))), (1, (0, a1)), (3, (0, a3)), (4, (0, a4)), (5, (0, a5)), (6, (0, a6)), (7, (0, a7))] [(0, s0)] h (some (0, r.1), r.2) := by
  unfold f_Mo_inItems_89 at hf
  refine k_istore (pc := 89) (L' := [(8, (0, s0)), (0, (2, ((a0 : Nat) : Int))), (1, (0, a1)), (3, (0, a3)), (4, (0, a4)), (5, (0, a5)), (6, (0, a6)), (7, (0, a7))]) d_Mo_inItems_89 (Nat.le_of_ble_eq_true rfl) rfl ?_
  refine k_aload_n (pc := 91) rfl z_m1 d_Mo_inItems_91 ?_
  refine k_iload_n (pc := 92) rfl z_m2 d_Mo_inItems_92 ?_
  refine k_iload (pc := 93) z_m5 d_Mo_inItems_93 ?_
  obtain ⟨n5, e_n5, hf⟩ := z_bd hf
  obtain ⟨q6, e_q6, hf⟩ := z_bd hf
  refine k_callVi (pc := 95) (as := [(0, a1), (0, a5)]) (rest := []) d_Mo_inItems_95 cw_Mo_inItems_132 rfl (Nat.le_of_ble_eq_true rfl) (z_ck_of e_n5) (t_Mo_at e_q6) ?_
  refine k_istore (pc := 98) (L' := [(9, (0, q6.1)), (8, (0, s0)), (0, (2, ((a0 : Nat) : Int))), (1, (0, a1)), (3, (0, a3)), (4, (0, a4)), (5, (0, a5)), (6, (0, a6)), (7, (0, a7))]) d_Mo_inItems_98 (Nat.le_of_ble_eq_true rfl) rfl ?_
  refine k_iload (pc := 100) z_m1 d_Mo_inItems_100 ?_
  rcases z_it hf with ⟨w9, hf⟩ | ⟨w9, hf⟩
  · refine k_if_eq_t (pc := 102) (tgt := 117) w9 d_Mo_inItems_102 rfl ?_
    refine k_iload (pc := 117) z_m0 d_Mo_inItems_117 ?_
    refine k_sub [2, 3, 4, 5, 6, 7, 8, 1, 0] rfl ?_
    exact b_Mo_inItems_119 c54 k54 a0 a1 a3 a4 a5 a6 a7 s0 q6.1 q6.1 q6.2 _ hf
  · refine k_if_eq_f (pc := 102) (tgt := 117) w9 d_Mo_inItems_102 rfl ?_
    refine k_aload_n (pc := 105) rfl z_m2 d_Mo_inItems_105 ?_
    refine k_iload_n (pc := 106) rfl z_m3 d_Mo_inItems_106 ?_
    refine k_iload (pc := 107) z_m6 d_Mo_inItems_107 ?_
    refine k_iconst (pc := 109) (zi_lit rfl) d_Mo_inItems_109 ?_
    refine k_iadd (pc := 110) d_Mo_inItems_110 ?_
    obtain ⟨n7, e_n7, hf⟩ := z_bd hf
    obtain ⟨q8, e_q8, hf⟩ := z_bd hf
    refine k_callVi (pc := 111) (as := [(0, a1), (0, zw (a5 + 2))]) (rest := []) d_Mo_inItems_111 cw_Mo_inItems_132 rfl (Nat.le_of_ble_eq_true rfl) (z_ck_of e_n7) (t_Mo_at e_q8) ?_
    refine k_goto (pc := 114) (tgt := 119) d_Mo_inItems_114 rfl ?_
    refine k_sub [2, 3, 4, 5, 6, 7, 8, 1, 0] rfl ?_
    exact b_Mo_inItems_119 c54 k54 a0 a1 a3 a4 a5 a6 a7 s0 q6.1 q8.1 q8.2 _ hf
theorem b_Mo_inItems_88 (c54 : Nat → Int → Int → Int → Int → Int → Int → zH → Option (Int × zH)) (k54 : ∀ (x0 : Nat) (x1 : Int) (x3 : Int) (x4 : Int) (x5 : Int) (x6 : Int) (x7 : Int) (g : zH) (r : Int × zH), c54 x0 x1 x3 x4 x5 x6 x7 g = some r → zK m_Mo_inItems 54 [(0, (2, ((x0 : Nat) : Int))), (1, (0, x1)), (3, (0, x3)), (4, (0, x4)), (5, (0, x5)), (6, (0, x6)), (7, (0, x7))] [] g (some (0, r.1), r.2)) (a0 : Nat) (a1 : Int) (a3 : Int) (a4 : Int) (a5 : Int) (a6 : Int) (a7 : Int) (h : zH) (r : Int × zH) (hf : f_Mo_inItems_88 c54 a0 a1 a3 a4 a5 a6 a7 h = some r) : zK m_Mo_inItems 88 [(0, (2, ((a0 : Nat) : Int))), (1, (0, a1)), (3, (0, a3)), (4, (0, a4)), (5, (0, a5)), (6, (0, a6)), (7, (0, a7))] [] h (some (0, r.1), r.2) := by
  unfold f_Mo_inItems_88 at hf
  refine k_iconst (pc := 88) (zi_lit rfl) d_Mo_inItems_88 ?_
  exact b_Mo_inItems_89 c54 k54 a0 a1 a3 a4 a5 a6 a7 0 h _ hf
theorem b_Mo_inItems_54 : ∀ (n : Nat) (a0 : Nat) (a1 : Int) (a3 : Int) (a4 : Int) (a5 : Int) (a6 : Int) (a7 : Int) (h : zH) (r : Int × zH), f_Mo_inItems_54 n a0 a1 a3 a4 a5 a6 a7 h = some r → zK m_Mo_inItems 54 [(0, (2, ((a0 : Nat) : Int))), (1, (0, a1)), (3, (0, a3)), (4, (0, a4)), (5, (0, a5)), (6, (0, a6)), (7, (0, a7))] [] h (some (0, r.1), r.2) := by
  intro n
  induction n with
  | zero =>
    intro a0 a1 a3 a4 a5 a6 a7 h r hf
    cases hf
  | succ n ih =>
    intro a0 a1 a3 a4 a5 a6 a7 h r hf
    unfold f_Mo_inItems_54 at hf
    refine k_iload (pc := 54) z_m4 d_Mo_inItems_54 ?_
    refine k_iload (pc := 56) z_m6 d_Mo_inItems_56 ?_
    rcases z_it hf with ⟨w15, hf⟩ | ⟨w15, hf⟩
    · refine k_ic_ge_t (pc := 58) (tgt := 166) w15 d_Mo_inItems_58 rfl ?_
      refine k_iload (pc := 166) z_m5 d_Mo_inItems_166 ?_
      refine k_iload (pc := 168) z_m3 d_Mo_inItems_168 ?_
      rcases z_it hf with ⟨w10, hf⟩ | ⟨w10, hf⟩
      · refine k_ic_eq_t (pc := 170) (tgt := 177) w10 d_Mo_inItems_170 rfl ?_
        refine k_iconst (pc := 177) (zi_lit rfl) d_Mo_inItems_177 ?_
        cases hf
        exact k_zret (pc := 178) d_Mo_inItems_178 rfl (Or.inl rfl)
      · refine k_ic_eq_f (pc := 170) (tgt := 177) w10 d_Mo_inItems_170 rfl ?_
        refine k_iconst (pc := 173) (zi_lit rfl) d_Mo_inItems_173 ?_
        refine k_goto (pc := 174) (tgt := 178) d_Mo_inItems_174 rfl ?_
        cases hf
        exact k_zret (pc := 178) d_Mo_inItems_178 rfl (Or.inr rfl)
    · refine k_ic_ge_f (pc := 58) (tgt := 166) w15 d_Mo_inItems_58 rfl ?_
      refine k_aload_n (pc := 61) rfl z_m0 d_Mo_inItems_61 ?_
      refine k_iload_n (pc := 62) rfl z_m1 d_Mo_inItems_62 ?_
      refine k_iload (pc := 63) z_m4 d_Mo_inItems_63 ?_
      refine k_iconst (pc := 65) (zi_lit rfl) d_Mo_inItems_65 ?_
      refine k_iadd (pc := 66) d_Mo_inItems_66 ?_
      obtain ⟨n11, e_n11, hf⟩ := z_bd hf
      obtain ⟨q12, e_q12, hf⟩ := z_bd hf
      refine k_callVi (pc := 67) (as := [(0, a1), (0, zw (a5 + 1))]) (rest := []) d_Mo_inItems_67 cw_Mo_inItems_132 rfl (Nat.le_of_ble_eq_true rfl) (z_ck_of e_n11) (t_Mo_at e_q12) ?_
      refine k_bipush (pc := 70) (zi_lit rfl) (by decide) d_Mo_inItems_70 ?_
      rcases z_it hf with ⟨w14, hf⟩ | ⟨w14, hf⟩
      · refine k_ic_ne_f (pc := 72) (tgt := 88) w14 d_Mo_inItems_72 rfl ?_
        refine k_iload (pc := 75) z_m4 d_Mo_inItems_75 ?_
        refine k_iconst (pc := 77) (zi_lit rfl) d_Mo_inItems_77 ?_
        refine k_iadd (pc := 78) d_Mo_inItems_78 ?_
        refine k_iload (pc := 79) z_m6 d_Mo_inItems_79 ?_
        rcases z_it hf with ⟨w13, hf⟩ | ⟨w13, hf⟩
        · refine k_ic_ge_t (pc := 81) (tgt := 88) w13 d_Mo_inItems_81 rfl ?_
          exact b_Mo_inItems_88 (f_Mo_inItems_54 n) ih a0 a1 a3 a4 a5 a6 a7 q12.2 _ hf
        · refine k_ic_ge_f (pc := 81) (tgt := 88) w13 d_Mo_inItems_81 rfl ?_
          refine k_iconst (pc := 84) (zi_lit rfl) d_Mo_inItems_84 ?_
          refine k_goto (pc := 85) (tgt := 89) d_Mo_inItems_85 rfl ?_
          exact b_Mo_inItems_89 (f_Mo_inItems_54 n) ih a0 a1 a3 a4 a5 a6 a7 1 q12.2 _ hf
      · refine k_ic_ne_t (pc := 72) (tgt := 88) w14 d_Mo_inItems_72 rfl ?_
        exact b_Mo_inItems_88 (f_Mo_inItems_54 n) ih a0 a1 a3 a4 a5 a6 a7 q12.2 _ hf
theorem b_Mo_inItems_34 (a0 : Nat) (a1 : Int) (a2 : Int) (a3 : Int) (a4 : Int) (s0 : Int) (h : zH) (r : Int × zH) (hf : f_Mo_inItems_34 a0 a1 a2 a3 a4 s0 h = some r) : zK m_Mo_inItems 34 [(0, (2, ((a0 : Nat) : Int))), (1, (0, a1)), (2, (0, a2)), (3, (0, a3)), (4, (0, a4))] [(0, s0)] h (some (0, r.1), r.2) := by
  unfold f_Mo_inItems_34 at hf
  refine k_istore (pc := 34) (L' := [(5, (0, s0)), (0, (2, ((a0 : Nat) : Int))), (1, (0, a1)), (2, (0, a2)), (3, (0, a3)), (4, (0, a4))]) d_Mo_inItems_34 (Nat.le_of_ble_eq_true rfl) rfl ?_
  refine k_iconst (pc := 36) (zi_lit rfl) d_Mo_inItems_36 ?_
  refine k_istore (pc := 37) (L' := [(6, (0, 0)), (5, (0, s0)), (0, (2, ((a0 : Nat) : Int))), (1, (0, a1)), (2, (0, a2)), (3, (0, a3)), (4, (0, a4))]) d_Mo_inItems_37 (Nat.le_of_ble_eq_true rfl) rfl ?_
  refine k_aload_n (pc := 39) rfl z_m2 d_Mo_inItems_39 ?_
  obtain ⟨v16, e_v16, hf⟩ := z_bd hf
  refine k_getR (pc := 40) d_Mo_inItems_40 fd_Mo_35 rfl e_v16 ?_
  refine k_bipush (pc := 43) (zi_lit rfl) (by decide) d_Mo_inItems_43 ?_
  refine k_iload_n (pc := 45) rfl z_m3 d_Mo_inItems_45 ?_
  refine k_imul (pc := 46) d_Mo_inItems_46 ?_
  refine k_iload_n (pc := 47) rfl z_m4 d_Mo_inItems_47 ?_
  refine k_iadd (pc := 48) d_Mo_inItems_48 ?_
  obtain ⟨v17, e_v17, hf⟩ := z_bd hf
  refine k_iald (pc := 49) d_Mo_inItems_49 e_v17 ?_
  refine k_iconst (pc := 50) (zi_lit rfl) d_Mo_inItems_50 ?_
  refine k_isub (pc := 51) d_Mo_inItems_51 ?_
  refine k_istore (pc := 52) (L' := [(7, (0, zw (v17 - 1))), (6, (0, 0)), (5, (0, s0)), (0, (2, ((a0 : Nat) : Int))), (1, (0, a1)), (2, (0, a2)), (3, (0, a3)), (4, (0, a4))]) d_Mo_inItems_52 (Nat.le_of_ble_eq_true rfl) rfl ?_
  refine k_sub [3, 4, 6, 7, 2, 1, 0] rfl ?_
  exact b_Mo_inItems_54 100000 a0 a1 a3 a4 s0 0 (zw (v17 - 1)) h _ hf
theorem b_Mo_inItems_18 (a0 : Nat) (a1 : Int) (a2 : Int) (a3 : Int) (s0 : Int) (h : zH) (r : Int × zH) (hf : f_Mo_inItems_18 a0 a1 a2 a3 s0 h = some r) : zK m_Mo_inItems 18 [(0, (2, ((a0 : Nat) : Int))), (1, (0, a1)), (2, (0, a2)), (3, (0, a3))] [(0, s0)] h (some (0, r.1), r.2) := by
  unfold f_Mo_inItems_18 at hf
  refine k_istore (pc := 18) (L' := [(4, (0, s0)), (0, (2, ((a0 : Nat) : Int))), (1, (0, a1)), (2, (0, a2)), (3, (0, a3))]) d_Mo_inItems_18 (Nat.le_of_ble_eq_true rfl) rfl ?_
  refine k_iload (pc := 20) z_m0 d_Mo_inItems_20 ?_
  rcases z_it hf with ⟨w18, hf⟩ | ⟨w18, hf⟩
  · refine k_if_eq_t (pc := 22) (tgt := 31) w18 d_Mo_inItems_22 rfl ?_
    refine k_iload_n (pc := 31) rfl z_m3 d_Mo_inItems_31 ?_
    refine k_iconst (pc := 32) (zi_lit rfl) d_Mo_inItems_32 ?_
    refine k_iadd (pc := 33) d_Mo_inItems_33 ?_
    refine k_sub [1, 2, 3, 4, 0] rfl ?_
    exact b_Mo_inItems_34 a0 a1 a2 a3 s0 (zw (a2 + 1)) h _ hf
  · refine k_if_eq_f (pc := 22) (tgt := 31) w18 d_Mo_inItems_22 rfl ?_
    refine k_iload_n (pc := 25) rfl z_m3 d_Mo_inItems_25 ?_
    refine k_iconst (pc := 26) (zi_lit rfl) d_Mo_inItems_26 ?_
    refine k_iadd (pc := 27) d_Mo_inItems_27 ?_
    refine k_goto (pc := 28) (tgt := 34) d_Mo_inItems_28 rfl ?_
    refine k_sub [1, 2, 3, 4, 0] rfl ?_
    exact b_Mo_inItems_34 a0 a1 a2 a3 s0 (zw (a2 + 2)) h _ hf
theorem b_Mo_inItems_0 (a0 : Nat) (a1 : Int) (a2 : Int) (a3 : Int) (h : zH) (r : Int × zH) (hf : f_Mo_inItems a0 a1 a2 a3 h = some r) : zK m_Mo_inItems 0 [(0, (2, ((a0 : Nat) : Int))), (1, (0, a1)), (2, (0, a2)), (3, (0, a3))] [] h (some (0, r.1), r.2) := by
  unfold f_Mo_inItems at hf
  refine k_aload_n (pc := 0) rfl z_m0 d_Mo_inItems_0 ?_
  refine k_iload_n (pc := 1) rfl z_m1 d_Mo_inItems_1 ?_
  refine k_iload_n (pc := 2) rfl z_m2 d_Mo_inItems_2 ?_
  refine k_iconst (pc := 3) (zi_lit rfl) d_Mo_inItems_3 ?_
  refine k_iadd (pc := 4) d_Mo_inItems_4 ?_
  obtain ⟨n19, e_n19, hf⟩ := z_bd hf
  obtain ⟨q20, e_q20, hf⟩ := z_bd hf
  refine k_callVi (pc := 5) (as := [(0, a1), (0, zw (a2 + 1))]) (rest := []) d_Mo_inItems_5 cw_Mo_inItems_132 rfl (Nat.le_of_ble_eq_true rfl) (z_ck_of e_n19) (t_Mo_at e_q20) ?_
  refine k_bipush (pc := 8) (zi_lit rfl) (by decide) d_Mo_inItems_8 ?_
  rcases z_it hf with ⟨w21, hf⟩ | ⟨w21, hf⟩
  · refine k_ic_ne_f (pc := 10) (tgt := 17) w21 d_Mo_inItems_10 rfl ?_
    refine k_iconst (pc := 13) (zi_lit rfl) d_Mo_inItems_13 ?_
    refine k_goto (pc := 14) (tgt := 18) d_Mo_inItems_14 rfl ?_
    exact b_Mo_inItems_18 a0 a1 a2 a3 1 q20.2 _ hf
  · refine k_ic_ne_t (pc := 10) (tgt := 17) w21 d_Mo_inItems_10 rfl ?_
    refine k_iconst (pc := 17) (zi_lit rfl) d_Mo_inItems_17 ?_
    exact b_Mo_inItems_18 a0 a1 a2 a3 0 q20.2 _ hf
theorem t_Mo_inItems {a0 : Nat} {a1 : Int} {a2 : Int} {a3 : Int} {h : zH} {r : Int × zH} (hf : f_Mo_inItems a0 a1 a2 a3 h = some r) : zMt m_Mo_inItems [(2, ((a0 : Nat) : Int)), (0, a1), (0, a2), (0, a3)] h (some (0, r.1), r.2) := zMt.of (by decide) (Nat.le_of_ble_eq_true rfl) (b_Mo_inItems_0 a0 a1 a2 a3 h r hf)
theorem b_Mo_push_40 : ∀ (n : Nat) (a0 : Nat) (a4 : Int) (a5 : Int) (h : zH) (r : zH), f_Mo_push_40 n a0 a4 a5 h = some r → zK m_Mo_push 40 [(0, (2, ((a0 : Nat) : Int))), (4, (0, a4)), (5, (0, a5))] [] h (none, r) := by
  intro n
  induction n with
  | zero =>
    intro a0 a4 a5 h r hf
    cases hf
  | succ n ih =>
    intro a0 a4 a5 h r hf
    unfold f_Mo_push_40 at hf
    refine k_iload (pc := 40) z_m2 d_Mo_push_40 ?_
    refine k_bipush (pc := 42) (zi_lit rfl) (by decide) d_Mo_push_42 ?_
    rcases z_it hf with ⟨w7, hf⟩ | ⟨w7, hf⟩
    · refine k_ic_ge_t (pc := 44) (tgt := 72) w7 d_Mo_push_44 rfl ?_
      refine k_aload_n (pc := 72) rfl z_m0 d_Mo_push_72 ?_
      refine k_dup (pc := 73) (Or.inr rfl) d_Mo_push_73 ?_
      obtain ⟨v1, e_v1, hf⟩ := z_bd hf
      refine k_getI (pc := 74) d_Mo_push_74 fd_Mo_163 rfl e_v1 ?_
      refine k_iconst (pc := 77) (zi_lit rfl) d_Mo_push_77 ?_
      refine k_iadd (pc := 78) d_Mo_push_78 ?_
      obtain ⟨h2, e_h2, hf⟩ := z_bd hf
      refine k_putI (pc := 79) d_Mo_push_79 fd_Mo_163 (fun q => by cases q) rfl e_h2 ?_
      cases hf
      exact k_ret (pc := 82) d_Mo_push_82 rfl
    · refine k_ic_ge_f (pc := 44) (tgt := 72) w7 d_Mo_push_44 rfl ?_
      refine k_aload_n (pc := 47) rfl z_m0 d_Mo_push_47 ?_
      obtain ⟨v3, e_v3, hf⟩ := z_bd hf
      refine k_getR (pc := 48) d_Mo_push_48 fd_Mo_68 rfl e_v3 ?_
      refine k_iload (pc := 51) z_m1 d_Mo_push_51 ?_
      refine k_iconst (pc := 53) (zi_lit rfl) d_Mo_push_53 ?_
      refine k_iadd (pc := 54) d_Mo_push_54 ?_
      refine k_iload (pc := 55) z_m2 d_Mo_push_55 ?_
      refine k_iadd (pc := 57) d_Mo_push_57 ?_
      refine k_aload_n (pc := 58) rfl z_m0 d_Mo_push_58 ?_
      obtain ⟨v4, e_v4, hf⟩ := z_bd hf
      refine k_getR (pc := 59) d_Mo_push_59 fd_Mo_65 rfl e_v4 ?_
      refine k_iload (pc := 62) z_m2 d_Mo_push_62 ?_
      obtain ⟨v5, e_v5, hf⟩ := z_bd hf
      refine k_iald (pc := 64) d_Mo_push_64 e_v5 ?_
      obtain ⟨h6, e_h6, hf⟩ := z_bd hf
      refine k_iast (pc := 65) d_Mo_push_65 e_h6 ?_
      refine k_iinc (pc := 66) (L' := [(5, (0, zw (a5 + 1))), (0, (2, ((a0 : Nat) : Int))), (4, (0, a4))]) z_m2 d_Mo_push_66 (Nat.le_of_ble_eq_true rfl) rfl ?_
      refine k_goto (pc := 69) (tgt := 40) d_Mo_push_69 rfl ?_
      refine k_sub [1, 2, 0] rfl ?_
      exact ih a0 a4 (zw (a5 + 1)) h6 _ hf
theorem b_Mo_push_0 (a0 : Nat) (a1 : Int) (a2 : Int) (a3 : Int) (h : zH) (r : zH) (hf : f_Mo_push a0 a1 a2 a3 h = some r) : zK m_Mo_push 0 [(0, (2, ((a0 : Nat) : Int))), (1, (0, a1)), (2, (0, a2)), (3, (0, a3))] [] h (none, r) := by
  unfold f_Mo_push at hf
  refine k_bipush (pc := 0) (zi_lit rfl) (by decide) d_Mo_push_0 ?_
  refine k_aload_n (pc := 2) rfl z_m0 d_Mo_push_2 ?_
  obtain ⟨v8, e_v8, hf⟩ := z_bd hf
  refine k_getI (pc := 3) d_Mo_push_3 fd_Mo_163 rfl e_v8 ?_
  refine k_imul (pc := 6) d_Mo_push_6 ?_
  refine k_istore (pc := 7) (L' := [(4, (0, zw (9 * v8))), (0, (2, ((a0 : Nat) : Int))), (1, (0, a1)), (2, (0, a2)), (3, (0, a3))]) d_Mo_push_7 (Nat.le_of_ble_eq_true rfl) rfl ?_
  refine k_aload_n (pc := 9) rfl z_m1 d_Mo_push_9 ?_
  obtain ⟨v9, e_v9, hf⟩ := z_bd hf
  refine k_getR (pc := 10) d_Mo_push_10 fd_Mo_68 rfl e_v9 ?_
  refine k_iload (pc := 13) z_m0 d_Mo_push_13 ?_
  refine k_iload_n (pc := 15) rfl z_m2 d_Mo_push_15 ?_
  obtain ⟨h10, e_h10, hf⟩ := z_bd hf
  refine k_iast (pc := 16) d_Mo_push_16 e_h10 ?_
  refine k_aload_n (pc := 17) rfl z_m1 d_Mo_push_17 ?_
  obtain ⟨v11, e_v11, hf⟩ := z_bd hf
  refine k_getR (pc := 18) d_Mo_push_18 fd_Mo_68 rfl e_v11 ?_
  refine k_iload (pc := 21) z_m0 d_Mo_push_21 ?_
  refine k_iconst (pc := 23) (zi_lit rfl) d_Mo_push_23 ?_
  refine k_iadd (pc := 24) d_Mo_push_24 ?_
  refine k_iload_n (pc := 25) rfl z_m3 d_Mo_push_25 ?_
  obtain ⟨h12, e_h12, hf⟩ := z_bd hf
  refine k_iast (pc := 26) d_Mo_push_26 e_h12 ?_
  refine k_aload_n (pc := 27) rfl z_m1 d_Mo_push_27 ?_
  obtain ⟨v13, e_v13, hf⟩ := z_bd hf
  refine k_getR (pc := 28) d_Mo_push_28 fd_Mo_68 rfl e_v13 ?_
  refine k_iload (pc := 31) z_m0 d_Mo_push_31 ?_
  refine k_iconst (pc := 33) (zi_lit rfl) d_Mo_push_33 ?_
  refine k_iadd (pc := 34) d_Mo_push_34 ?_
  refine k_iload_n (pc := 35) rfl z_m4 d_Mo_push_35 ?_
  obtain ⟨h14, e_h14, hf⟩ := z_bd hf
  refine k_iast (pc := 36) d_Mo_push_36 e_h14 ?_
  refine k_iconst (pc := 37) (zi_lit rfl) d_Mo_push_37 ?_
  refine k_istore (pc := 38) (L' := [(5, (0, 0)), (4, (0, zw (9 * v8))), (0, (2, ((a0 : Nat) : Int))), (1, (0, a1)), (2, (0, a2)), (3, (0, a3))]) d_Mo_push_38 (Nat.le_of_ble_eq_true rfl) rfl ?_
  refine k_sub [2, 1, 0] rfl ?_
  exact b_Mo_push_40 100000 a0 (zw (9 * v8)) 0 h14 _ hf
theorem t_Mo_push {a0 : Nat} {a1 : Int} {a2 : Int} {a3 : Int} {h : zH} {r : zH} (hf : f_Mo_push a0 a1 a2 a3 h = some r) : zMt m_Mo_push [(2, ((a0 : Nat) : Int)), (0, a1), (0, a2), (0, a3)] h (none, r) := zMt.of (by decide) (Nat.le_of_ble_eq_true rfl) (b_Mo_push_0 a0 a1 a2 a3 h r hf)
theorem b_Mo_step_0 (a0 : Nat) (h : zH) (r : Int × zH) (hf : f_Mo_step a0 h = some r) : zK m_Mo_step 0 [(0, (2, ((a0 : Nat) : Int)))] [] h (some (0, r.1), r.2) := by
  unfold f_Mo_step at hf
  refine k_aload_n (pc := 0) rfl z_m0 d_Mo_step_0 ?_
  obtain ⟨v1, e_v1, hf⟩ := z_bd hf
  refine k_getI (pc := 1) d_Mo_step_1 fd_Mo_166 rfl e_v1 ?_
  refine k_aload_n (pc := 4) rfl z_m0 d_Mo_step_4 ?_
  obtain ⟨v2, e_v2, hf⟩ := z_bd hf
  refine k_getI (pc := 5) d_Mo_step_5 fd_Mo_125 rfl e_v2 ?_
  rcases z_it hf with ⟨w6, hf⟩ | ⟨w6, hf⟩
  · refine k_ic_ne_f (pc := 8) (tgt := 18) w6 d_Mo_step_8 rfl ?_
    refine k_aload_n (pc := 11) rfl z_m0 d_Mo_step_11 ?_
    refine k_iconst (pc := 12) (zi_lit rfl) d_Mo_step_12 ?_
    obtain ⟨h5, e_h5, hf⟩ := z_bd hf
    refine k_putZ (pc := 13) d_Mo_step_13 fd_Mo_169 (fun q => by cases q) rfl e_h5 ?_
    refine k_iconst (pc := 16) (zi_lit rfl) d_Mo_step_16 ?_
    cases hf
    exact k_zret (pc := 17) d_Mo_step_17 rfl (Or.inl rfl)
  · refine k_ic_ne_t (pc := 8) (tgt := 18) w6 d_Mo_step_8 rfl ?_
    refine k_aload_n (pc := 18) rfl z_m0 d_Mo_step_18 ?_
    refine k_dup (pc := 19) (Or.inr rfl) d_Mo_step_19 ?_
    obtain ⟨v3, e_v3, hf⟩ := z_bd hf
    refine k_getI (pc := 20) d_Mo_step_20 fd_Mo_166 rfl e_v3 ?_
    refine k_iconst (pc := 23) (zi_lit rfl) d_Mo_step_23 ?_
    refine k_iadd (pc := 24) d_Mo_step_24 ?_
    obtain ⟨h4, e_h4, hf⟩ := z_bd hf
    refine k_putI (pc := 25) d_Mo_step_25 fd_Mo_166 (fun q => by cases q) rfl e_h4 ?_
    refine k_iconst (pc := 28) (zi_lit rfl) d_Mo_step_28 ?_
    cases hf
    exact k_zret (pc := 29) d_Mo_step_29 rfl (Or.inr rfl)
theorem t_Mo_step {a0 : Nat} {h : zH} {r : Int × zH} (hf : f_Mo_step a0 h = some r) : zMt m_Mo_step [(2, ((a0 : Nat) : Int))] h (some (0, r.1), r.2) := zMt.of (by decide) (Nat.le_of_ble_eq_true rfl) (b_Mo_step_0 a0 h r hf)
theorem b_Mo_fits_37 : ∀ (n : Nat) (a0 : Nat) (a3 : Int) (a6 : Int) (a7 : Int) (a8 : Int) (h : zH) (r : Int × zH), f_Mo_fits_37 n a0 a3 a6 a7 a8 h = some r → zK m_Mo_fits 37 [(0, (2, ((a0 : Nat) : Int))), (3, (0, a3)), (6, (0, a6)), (7, (0, a7)), (8, (0, a8))] [] h (some (0, r.1), r.2) := by
  intro n
  induction n with
  | zero =>
    intro a0 a3 a6 a7 a8 h r hf
    cases hf
  | succ n ih =>
    intro a0 a3 a6 a7 a8 h r hf
    unfold f_Mo_fits_37 at hf
    refine k_iload (pc := 37) z_m4 d_Mo_fits_37 ?_
    refine k_aload_n (pc := 39) rfl z_m0 d_Mo_fits_39 ?_
    obtain ⟨v1, e_v1, hf⟩ := z_bd hf
    refine k_getR (pc := 40) d_Mo_fits_40 fd_Mo_71 rfl e_v1 ?_
    refine k_iload (pc := 43) z_m2 d_Mo_fits_43 ?_
    obtain ⟨v2, e_v2, hf⟩ := z_bd hf
    refine k_iald (pc := 45) d_Mo_fits_45 e_v2 ?_
    rcases z_it hf with ⟨w14, hf⟩ | ⟨w14, hf⟩
    · refine k_ic_ge_t (pc := 46) (tgt := 106) w14 d_Mo_fits_46 rfl ?_
      refine k_iload (pc := 106) z_m3 d_Mo_fits_106 ?_
      cases hf
      exact k_iret (pc := 108) d_Mo_fits_108 rfl
    · refine k_ic_ge_f (pc := 46) (tgt := 106) w14 d_Mo_fits_46 rfl ?_
      refine k_aload_n (pc := 49) rfl z_m0 d_Mo_fits_49 ?_
      obtain ⟨n3, e_n3, hf⟩ := z_bd hf
      obtain ⟨q4, e_q4, hf⟩ := z_bd hf
      refine k_callVi (pc := 50) (as := []) (rest := []) d_Mo_fits_50 cw_Mo_fits_173 rfl (Nat.le_of_ble_eq_true rfl) (z_ck_of e_n3) (t_Mo_step e_q4) ?_
      rcases z_it hf with ⟨w13, hf⟩ | ⟨w13, hf⟩
      · refine k_if_eq_t (pc := 53) (tgt := 95) w13 d_Mo_fits_53 rfl ?_
        refine k_iconst (pc := 95) (zi_lit rfl) d_Mo_fits_95 ?_
        cases hf
        exact k_iret (pc := 96) d_Mo_fits_96 rfl
      · refine k_if_eq_f (pc := 53) (tgt := 95) w13 d_Mo_fits_53 rfl ?_
        refine k_iload (pc := 56) z_m3 d_Mo_fits_56 ?_
        refine k_aload_n (pc := 58) rfl z_m0 d_Mo_fits_58 ?_
        obtain ⟨v5, e_v5, hf⟩ := z_bd hf
        refine k_getR (pc := 59) d_Mo_fits_59 fd_Mo_77 rfl e_v5 ?_
        refine k_iload_n (pc := 62) rfl z_m1 d_Mo_fits_62 ?_
        obtain ⟨v6, e_v6, hf⟩ := z_bd hf
        refine k_iald (pc := 63) d_Mo_fits_63 e_v6 ?_
        rcases z_it hf with ⟨w12, hf⟩ | ⟨w12, hf⟩
        · refine k_ic_ge_t (pc := 64) (tgt := 95) w12 d_Mo_fits_64 rfl ?_
          refine k_iconst (pc := 95) (zi_lit rfl) d_Mo_fits_95 ?_
          cases hf
          exact k_iret (pc := 96) d_Mo_fits_96 rfl
        · refine k_ic_ge_f (pc := 64) (tgt := 95) w12 d_Mo_fits_64 rfl ?_
          refine k_aload_n (pc := 67) rfl z_m0 d_Mo_fits_67 ?_
          obtain ⟨v7, e_v7, hf⟩ := z_bd hf
          refine k_getR (pc := 68) d_Mo_fits_68 fd_Mo_80 rfl e_v7 ?_
          refine k_bipush (pc := 71) (zi_lit rfl) (by decide) d_Mo_fits_71 ?_
          refine k_iload_n (pc := 73) rfl z_m1 d_Mo_fits_73 ?_
          refine k_imul (pc := 74) d_Mo_fits_74 ?_
          refine k_iload (pc := 75) z_m3 d_Mo_fits_75 ?_
          refine k_iadd (pc := 77) d_Mo_fits_77 ?_
          obtain ⟨v8, e_v8, hf⟩ := z_bd hf
          refine k_iald (pc := 78) d_Mo_fits_78 e_v8 ?_
          refine k_aload_n (pc := 79) rfl z_m0 d_Mo_fits_79 ?_
          obtain ⟨v9, e_v9, hf⟩ := z_bd hf
          refine k_getR (pc := 80) d_Mo_fits_80 fd_Mo_74 rfl e_v9 ?_
          refine k_bipush (pc := 83) (zi_lit rfl) (by decide) d_Mo_fits_83 ?_
          refine k_iload (pc := 85) z_m2 d_Mo_fits_85 ?_
          refine k_imul (pc := 87) d_Mo_fits_87 ?_
          refine k_iload (pc := 88) z_m4 d_Mo_fits_88 ?_
          refine k_iadd (pc := 90) d_Mo_fits_90 ?_
          obtain ⟨v10, e_v10, hf⟩ := z_bd hf
          refine k_iald (pc := 91) d_Mo_fits_91 e_v10 ?_
          rcases z_it hf with ⟨w11, hf⟩ | ⟨w11, hf⟩
          · refine k_ic_eq_t (pc := 92) (tgt := 97) w11 d_Mo_fits_92 rfl ?_
            refine k_iinc (pc := 97) (L' := [(7, (0, zw (a7 + 1))), (0, (2, ((a0 : Nat) : Int))), (3, (0, a3)), (6, (0, a6)), (8, (0, a8))]) z_m3 d_Mo_fits_97 (Nat.le_of_ble_eq_true rfl) rfl ?_
            refine k_iinc (pc := 100) (L' := [(8, (0, zw (a8 + 1))), (7, (0, zw (a7 + 1))), (0, (2, ((a0 : Nat) : Int))), (3, (0, a3)), (6, (0, a6))]) z_m4 d_Mo_fits_100 (Nat.le_of_ble_eq_true rfl) rfl ?_
            refine k_goto (pc := 103) (tgt := 37) d_Mo_fits_103 rfl ?_
            refine k_sub [2, 3, 4, 1, 0] rfl ?_
            exact ih a0 a3 a6 (zw (a7 + 1)) (zw (a8 + 1)) q4.2 _ hf
          · refine k_ic_eq_f (pc := 92) (tgt := 97) w11 d_Mo_fits_92 rfl ?_
            refine k_iconst (pc := 95) (zi_lit rfl) d_Mo_fits_95 ?_
            cases hf
            exact k_iret (pc := 96) d_Mo_fits_96 rfl
theorem b_Mo_fits_151 (a4 : Int) (s0 : Int) (s1 : Int) (h : zH) (r : Int × zH) (hf : f_Mo_fits_151 a4 s0 s1 h = some r) : zK m_Mo_fits 151 [(4, (0, a4))] [(0, s1), (0, s0)] h (some (0, r.1), r.2) := by
  unfold f_Mo_fits_151 at hf
  rcases z_it hf with ⟨w15, hf⟩ | ⟨w15, hf⟩
  · refine k_ic_ne_f (pc := 151) (tgt := 159) w15 d_Mo_fits_151 rfl ?_
    refine k_iload (pc := 154) z_m0 d_Mo_fits_154 ?_
    refine k_goto (pc := 156) (tgt := 160) d_Mo_fits_156 rfl ?_
    cases hf
    exact k_iret (pc := 160) d_Mo_fits_160 rfl
  · refine k_ic_ne_t (pc := 151) (tgt := 159) w15 d_Mo_fits_151 rfl ?_
    refine k_iconst (pc := 159) (zi_lit rfl) d_Mo_fits_159 ?_
    cases hf
    exact k_iret (pc := 160) d_Mo_fits_160 rfl
theorem b_Mo_fits_132 (a0 : Nat) (a3 : Int) (a4 : Int) (a5 : Int) (h : zH) (r : Int × zH) (hf : f_Mo_fits_132 a0 a3 a4 a5 h = some r) : zK m_Mo_fits 132 [(0, (2, ((a0 : Nat) : Int))), (3, (0, a3)), (4, (0, a4)), (5, (0, a5))] [] h (some (0, r.1), r.2) := by
  unfold f_Mo_fits_132 at hf
  refine k_iload (pc := 132) z_m2 d_Mo_fits_132 ?_
  refine k_iload (pc := 134) z_m3 d_Mo_fits_134 ?_
  refine k_bipush (pc := 136) (zi_lit rfl) (by decide) d_Mo_fits_136 ?_
  rcases z_it hf with ⟨w18, hf⟩ | ⟨w18, hf⟩
  · refine k_ic_ne_f (pc := 138) (tgt := 145) w18 d_Mo_fits_138 rfl ?_
    refine k_iconst (pc := 141) (zi_lit rfl) d_Mo_fits_141 ?_
    refine k_goto (pc := 142) (tgt := 151) d_Mo_fits_142 rfl ?_
    refine k_sub [2] rfl ?_
    exact b_Mo_fits_151 a4 a4 0 h _ hf
  · refine k_ic_ne_t (pc := 138) (tgt := 145) w18 d_Mo_fits_138 rfl ?_
    refine k_aload_n (pc := 145) rfl z_m0 d_Mo_fits_145 ?_
    obtain ⟨v16, e_v16, hf⟩ := z_bd hf
    refine k_getR (pc := 146) d_Mo_fits_146 fd_Mo_77 rfl e_v16 ?_
    refine k_iload_n (pc := 149) rfl z_m1 d_Mo_fits_149 ?_
    obtain ⟨v17, e_v17, hf⟩ := z_bd hf
    refine k_iald (pc := 150) d_Mo_fits_150 e_v17 ?_
    refine k_sub [2] rfl ?_
    exact b_Mo_fits_151 a4 a4 v17 h _ hf
theorem b_Mo_fits_251 (a4 : Int) (s0 : Int) (h : zH) (r : Int × zH) (hf : f_Mo_fits_251 a4 s0 h = some r) : zK m_Mo_fits 251 [(4, (0, a4))] [(0, s0)] h (some (0, r.1), r.2) := by
  unfold f_Mo_fits_251 at hf
  refine k_istore (pc := 251) (L' := [(7, (0, s0)), (4, (0, a4))]) d_Mo_fits_251 (Nat.le_of_ble_eq_true rfl) rfl ?_
  refine k_iload (pc := 253) z_m0 d_Mo_fits_253 ?_
  rcases z_it hf with ⟨w19, hf⟩ | ⟨w19, hf⟩
  · refine k_if_eq_t (pc := 255) (tgt := 265) w19 d_Mo_fits_255 rfl ?_
    refine k_iconst (pc := 265) (zi_lit rfl) d_Mo_fits_265 ?_
    cases hf
    exact k_iret (pc := 266) d_Mo_fits_266 rfl
  · refine k_if_eq_f (pc := 255) (tgt := 265) w19 d_Mo_fits_255 rfl ?_
    refine k_iload (pc := 258) z_m1 d_Mo_fits_258 ?_
    refine k_iconst (pc := 260) (zi_lit rfl) d_Mo_fits_260 ?_
    refine k_iadd (pc := 261) d_Mo_fits_261 ?_
    refine k_goto (pc := 262) (tgt := 266) d_Mo_fits_262 rfl ?_
    cases hf
    exact k_iret (pc := 266) d_Mo_fits_266 rfl
theorem b_Mo_fits_246 (a4 : Int) (h : zH) (r : Int × zH) (hf : f_Mo_fits_246 a4 h = some r) : zK m_Mo_fits 246 [(4, (0, a4))] [] h (some (0, r.1), r.2) := by
  unfold f_Mo_fits_246 at hf
  refine k_iconst (pc := 246) (zi_lit rfl) d_Mo_fits_246 ?_
  refine k_goto (pc := 247) (tgt := 251) d_Mo_fits_247 rfl ?_
  exact b_Mo_fits_251 a4 1 h _ hf
theorem b_Mo_fits_250 (a4 : Int) (h : zH) (r : Int × zH) (hf : f_Mo_fits_250 a4 h = some r) : zK m_Mo_fits 250 [(4, (0, a4))] [] h (some (0, r.1), r.2) := by
  unfold f_Mo_fits_250 at hf
  refine k_iconst (pc := 250) (zi_lit rfl) d_Mo_fits_250 ?_
  exact b_Mo_fits_251 a4 0 h _ hf
theorem b_Mo_fits_0 (a0 : Nat) (a1 : Int) (a2 : Int) (a3 : Int) (a4 : Int) (h : zH) (r : Int × zH) (hf : f_Mo_fits a0 a1 a2 a3 a4 h = some r) : zK m_Mo_fits 0 [(0, (2, ((a0 : Nat) : Int))), (1, (0, a1)), (2, (0, a2)), (3, (0, a3)), (4, (0, a4))] [] h (some (0, r.1), r.2) := by
  unfold f_Mo_fits at hf
  refine k_aload_n (pc := 0) rfl z_m0 d_Mo_fits_0 ?_
  refine k_iload_n (pc := 1) rfl z_m1 d_Mo_fits_1 ?_
  refine k_iload_n (pc := 2) rfl z_m2 d_Mo_fits_2 ?_
  obtain ⟨n20, e_n20, hf⟩ := z_bd hf
  obtain ⟨q21, e_q21, hf⟩ := z_bd hf
  refine k_callVi (pc := 3) (as := [(0, a1), (0, a2)]) (rest := []) d_Mo_fits_3 cw_Mo_fits_132 rfl (Nat.le_of_ble_eq_true rfl) (z_ck_of e_n20) (t_Mo_at e_q21) ?_
  refine k_istore (pc := 6) (L' := [(5, (0, q21.1)), (0, (2, ((a0 : Nat) : Int))), (1, (0, a1)), (2, (0, a2)), (3, (0, a3)), (4, (0, a4))]) d_Mo_fits_6 (Nat.le_of_ble_eq_true rfl) rfl ?_
  refine k_aload_n (pc := 8) rfl z_m1 d_Mo_fits_8 ?_
  refine k_iload_n (pc := 9) rfl z_m2 d_Mo_fits_9 ?_
  refine k_iload_n (pc := 10) rfl z_m3 d_Mo_fits_10 ?_
  obtain ⟨n22, e_n22, hf⟩ := z_bd hf
  obtain ⟨q23, e_q23, hf⟩ := z_bd hf
  refine k_callVi (pc := 11) (as := [(0, a1), (0, a2)]) (rest := []) d_Mo_fits_11 cw_Mo_fits_143 rfl (Nat.le_of_ble_eq_true rfl) (z_ck_of e_n22) (t_Mo_isRef e_q23) ?_
  rcases z_it hf with ⟨w46, hf⟩ | ⟨w46, hf⟩
  · refine k_if_eq_t (pc := 14) (tgt := 109) w46 d_Mo_fits_14 rfl ?_
    refine k_aload_n (pc := 109) rfl z_m1 d_Mo_fits_109 ?_
    obtain ⟨n24, e_n24, hf⟩ := z_bd hf
    obtain ⟨q25, e_q25, hf⟩ := z_bd hf
    refine k_callVi (pc := 110) (as := []) (rest := []) d_Mo_fits_110 cw_Mo_fits_173 rfl (Nat.le_of_ble_eq_true rfl) (z_ck_of e_n24) (t_Mo_step e_q25) ?_
    rcases z_it hf with ⟨w43, hf⟩ | ⟨w43, hf⟩
    · refine k_if_ne_f (pc := 113) (tgt := 118) w43 d_Mo_fits_113 rfl ?_
      refine k_iconst (pc := 116) (zi_lit rfl) d_Mo_fits_116 ?_
      cases hf
      exact k_iret (pc := 117) d_Mo_fits_117 rfl
    · refine k_if_ne_t (pc := 113) (tgt := 118) w43 d_Mo_fits_113 rfl ?_
      refine k_iload (pc := 118) z_m0 d_Mo_fits_118 ?_
      refine k_bipush (pc := 120) (zi_lit rfl) (by decide) d_Mo_fits_120 ?_
      rcases z_it hf with ⟨w42, hf⟩ | ⟨w42, hf⟩
      · refine k_ic_eq_t (pc := 122) (tgt := 132) w42 d_Mo_fits_122 rfl ?_
        refine k_sub [1, 4, 5, 0] rfl ?_
        exact b_Mo_fits_132 a0 a3 a4 q21.1 q25.2 _ hf
      · refine k_ic_eq_f (pc := 122) (tgt := 132) w42 d_Mo_fits_122 rfl ?_
        refine k_iload (pc := 125) z_m0 d_Mo_fits_125 ?_
        refine k_bipush (pc := 127) (zi_lit rfl) (by decide) d_Mo_fits_127 ?_
        rcases z_it hf with ⟨w41, hf⟩ | ⟨w41, hf⟩
        · refine k_ic_ne_f (pc := 129) (tgt := 161) w41 d_Mo_fits_129 rfl ?_
          refine k_sub [1, 4, 5, 0] rfl ?_
          exact b_Mo_fits_132 a0 a3 a4 q21.1 q25.2 _ hf
        · refine k_ic_ne_t (pc := 129) (tgt := 161) w41 d_Mo_fits_129 rfl ?_
          refine k_iload (pc := 161) z_m5 d_Mo_fits_161 ?_
          refine k_aload_n (pc := 163) rfl z_m1 d_Mo_fits_163 ?_
          obtain ⟨v26, e_v26, hf⟩ := z_bd hf
          refine k_getR (pc := 164) d_Mo_fits_164 fd_Mo_77 rfl e_v26 ?_
          refine k_iload_n (pc := 167) rfl z_m4 d_Mo_fits_167 ?_
          obtain ⟨v27, e_v27, hf⟩ := z_bd hf
          refine k_iald (pc := 168) d_Mo_fits_168 e_v27 ?_
          rcases z_it hf with ⟨w40, hf⟩ | ⟨w40, hf⟩
          · refine k_ic_lt_t (pc := 169) (tgt := 174) w40 d_Mo_fits_169 rfl ?_
            refine k_aload_n (pc := 174) rfl z_m1 d_Mo_fits_174 ?_
            obtain ⟨v28, e_v28, hf⟩ := z_bd hf
            refine k_getR (pc := 175) d_Mo_fits_175 fd_Mo_80 rfl e_v28 ?_
            refine k_bipush (pc := 178) (zi_lit rfl) (by decide) d_Mo_fits_178 ?_
            refine k_iload_n (pc := 180) rfl z_m4 d_Mo_fits_180 ?_
            refine k_imul (pc := 181) d_Mo_fits_181 ?_
            refine k_iload (pc := 182) z_m5 d_Mo_fits_182 ?_
            refine k_iadd (pc := 184) d_Mo_fits_184 ?_
            obtain ⟨v29, e_v29, hf⟩ := z_bd hf
            refine k_iald (pc := 185) d_Mo_fits_185 e_v29 ?_
            refine k_istore (pc := 186) (L' := [(6, (0, v29)), (5, (0, q21.1)), (0, (2, ((a0 : Nat) : Int))), (1, (0, a1)), (2, (0, a2)), (3, (0, a3)), (4, (0, a4))]) d_Mo_fits_186 (Nat.le_of_ble_eq_true rfl) rfl ?_
            refine k_iload (pc := 188) z_m1 d_Mo_fits_188 ?_
            refine k_bipush (pc := 190) (zi_lit rfl) (by decide) d_Mo_fits_190 ?_
            rcases z_it hf with ⟨w39, hf⟩ | ⟨w39, hf⟩
            · refine k_ic_eq_t (pc := 192) (tgt := 246) w39 d_Mo_fits_192 rfl ?_
              refine k_sub [6] rfl ?_
              exact b_Mo_fits_246 a4 q25.2 _ hf
            · refine k_ic_eq_f (pc := 192) (tgt := 246) w39 d_Mo_fits_192 rfl ?_
              refine k_iload (pc := 195) z_m1 d_Mo_fits_195 ?_
              refine k_bipush (pc := 197) (zi_lit rfl) (by decide) d_Mo_fits_197 ?_
              rcases z_it hf with ⟨w38, hf⟩ | ⟨w38, hf⟩
              · refine k_ic_ne_f (pc := 199) (tgt := 216) w38 d_Mo_fits_199 rfl ?_
                refine k_aload_n (pc := 202) rfl z_m2 d_Mo_fits_202 ?_
                refine k_iload_n (pc := 203) rfl z_m3 d_Mo_fits_203 ?_
                refine k_iload_n (pc := 204) rfl z_m4 d_Mo_fits_204 ?_
                refine k_iload (pc := 205) z_m0 d_Mo_fits_205 ?_
                obtain ⟨n35, e_n35, hf⟩ := z_bd hf
                obtain ⟨q36, e_q36, hf⟩ := z_bd hf
                refine k_callVi (pc := 207) (as := [(0, a1), (0, a2), (0, v29)]) (rest := []) d_Mo_fits_207 cw_Mo_fits_177 rfl (Nat.le_of_ble_eq_true rfl) (z_ck_of e_n35) (t_Mo_inItems e_q36) ?_
                rcases z_it hf with ⟨w37, hf⟩ | ⟨w37, hf⟩
                · refine k_if_eq_t (pc := 210) (tgt := 250) w37 d_Mo_fits_210 rfl ?_
                  refine k_sub [6] rfl ?_
                  exact b_Mo_fits_250 a4 q36.2 _ hf
                · refine k_if_eq_f (pc := 210) (tgt := 250) w37 d_Mo_fits_210 rfl ?_
                  refine k_goto (pc := 213) (tgt := 246) d_Mo_fits_213 rfl ?_
                  refine k_sub [6] rfl ?_
                  exact b_Mo_fits_246 a4 q36.2 _ hf
              · refine k_ic_ne_t (pc := 199) (tgt := 216) w38 d_Mo_fits_199 rfl ?_
                refine k_iload (pc := 216) z_m1 d_Mo_fits_216 ?_
                refine k_bipush (pc := 218) (zi_lit rfl) (by decide) d_Mo_fits_218 ?_
                rcases z_it hf with ⟨w34, hf⟩ | ⟨w34, hf⟩
                · refine k_ic_ne_f (pc := 220) (tgt := 239) w34 d_Mo_fits_220 rfl ?_
                  refine k_aload_n (pc := 223) rfl z_m2 d_Mo_fits_223 ?_
                  refine k_iload_n (pc := 224) rfl z_m3 d_Mo_fits_224 ?_
                  refine k_iload_n (pc := 225) rfl z_m4 d_Mo_fits_225 ?_
                  refine k_iconst (pc := 226) (zi_lit rfl) d_Mo_fits_226 ?_
                  refine k_iadd (pc := 227) d_Mo_fits_227 ?_
                  obtain ⟨n31, e_n31, hf⟩ := z_bd hf
                  obtain ⟨q32, e_q32, hf⟩ := z_bd hf
                  refine k_callVi (pc := 228) (as := [(0, a1), (0, zw (a2 + 1))]) (rest := []) d_Mo_fits_228 cw_Mo_fits_132 rfl (Nat.le_of_ble_eq_true rfl) (z_ck_of e_n31) (t_Mo_at e_q32) ?_
                  refine k_iload (pc := 231) z_m0 d_Mo_fits_231 ?_
                  rcases z_it hf with ⟨w33, hf⟩ | ⟨w33, hf⟩
                  · refine k_ic_ne_f (pc := 233) (tgt := 250) w33 d_Mo_fits_233 rfl ?_
                    refine k_goto (pc := 236) (tgt := 246) d_Mo_fits_236 rfl ?_
                    refine k_sub [6] rfl ?_
                    exact b_Mo_fits_246 a4 q32.2 _ hf
                  · refine k_ic_ne_t (pc := 233) (tgt := 250) w33 d_Mo_fits_233 rfl ?_
                    refine k_sub [6] rfl ?_
                    exact b_Mo_fits_250 a4 q32.2 _ hf
                · refine k_ic_ne_t (pc := 220) (tgt := 239) w34 d_Mo_fits_220 rfl ?_
                  refine k_iload (pc := 239) z_m1 d_Mo_fits_239 ?_
                  refine k_iload (pc := 241) z_m0 d_Mo_fits_241 ?_
                  rcases z_it hf with ⟨w30, hf⟩ | ⟨w30, hf⟩
                  · refine k_ic_ne_f (pc := 243) (tgt := 250) w30 d_Mo_fits_243 rfl ?_
                    refine k_sub [6] rfl ?_
                    exact b_Mo_fits_246 a4 q25.2 _ hf
                  · refine k_ic_ne_t (pc := 243) (tgt := 250) w30 d_Mo_fits_243 rfl ?_
                    refine k_sub [6] rfl ?_
                    exact b_Mo_fits_250 a4 q25.2 _ hf
          · refine k_ic_lt_f (pc := 169) (tgt := 174) w40 d_Mo_fits_169 rfl ?_
            refine k_iconst (pc := 172) (zi_lit rfl) d_Mo_fits_172 ?_
            cases hf
            exact k_iret (pc := 173) d_Mo_fits_173 rfl
  · refine k_if_eq_f (pc := 14) (tgt := 109) w46 d_Mo_fits_14 rfl ?_
    refine k_aload_n (pc := 17) rfl z_m1 d_Mo_fits_17 ?_
    refine k_iload_n (pc := 18) rfl z_m2 d_Mo_fits_18 ?_
    refine k_iload_n (pc := 19) rfl z_m3 d_Mo_fits_19 ?_
    refine k_iconst (pc := 20) (zi_lit rfl) d_Mo_fits_20 ?_
    refine k_iadd (pc := 21) d_Mo_fits_21 ?_
    obtain ⟨n44, e_n44, hf⟩ := z_bd hf
    obtain ⟨q45, e_q45, hf⟩ := z_bd hf
    refine k_callVi (pc := 22) (as := [(0, a1), (0, zw (a2 + 1))]) (rest := []) d_Mo_fits_22 cw_Mo_fits_132 rfl (Nat.le_of_ble_eq_true rfl) (z_ck_of e_n44) (t_Mo_at e_q45) ?_
    refine k_bipush (pc := 25) (zi_lit rfl) (by decide) d_Mo_fits_25 ?_
    refine k_isub (pc := 27) d_Mo_fits_27 ?_
    refine k_istore (pc := 28) (L' := [(6, (0, zw (q45.1 - 49))), (5, (0, q21.1)), (0, (2, ((a0 : Nat) : Int))), (1, (0, a1)), (2, (0, a2)), (3, (0, a3)), (4, (0, a4))]) d_Mo_fits_28 (Nat.le_of_ble_eq_true rfl) rfl ?_
    refine k_iload (pc := 30) z_m6 d_Mo_fits_30 ?_
    refine k_istore (pc := 32) (L' := [(7, (0, a4)), (6, (0, zw (q45.1 - 49))), (5, (0, q21.1)), (0, (2, ((a0 : Nat) : Int))), (1, (0, a1)), (2, (0, a2)), (3, (0, a3)), (4, (0, a4))]) d_Mo_fits_32 (Nat.le_of_ble_eq_true rfl) rfl ?_
    refine k_iconst (pc := 34) (zi_lit rfl) d_Mo_fits_34 ?_
    refine k_istore (pc := 35) (L' := [(8, (0, 0)), (7, (0, a4)), (6, (0, zw (q45.1 - 49))), (5, (0, q21.1)), (0, (2, ((a0 : Nat) : Int))), (1, (0, a1)), (2, (0, a2)), (3, (0, a3)), (4, (0, a4))]) d_Mo_fits_35 (Nat.le_of_ble_eq_true rfl) rfl ?_
    refine k_sub [4, 7, 2, 1, 0] rfl ?_
    exact b_Mo_fits_37 100000 a0 a3 (zw (q45.1 - 49)) a4 0 q45.2 _ hf
theorem t_Mo_fits {a0 : Nat} {a1 : Int} {a2 : Int} {a3 : Int} {a4 : Int} {h : zH} {r : Int × zH} (hf : f_Mo_fits a0 a1 a2 a3 a4 h = some r) : zMt m_Mo_fits [(2, ((a0 : Nat) : Int)), (0, a1), (0, a2), (0, a3), (0, a4)] h (some (0, r.1), r.2) := zMt.of (by decide) (Nat.le_of_ble_eq_true rfl) (b_Mo_fits_0 a0 a1 a2 a3 a4 h r hf)
theorem b_Mo_ended_23 (h : zH) (r : Int × zH) (hf : f_Mo_ended_23 h = some r) : zK m_Mo_ended 23 [] [] h (some (0, r.1), r.2) := by
  unfold f_Mo_ended_23 at hf
  refine k_iconst (pc := 23) (zi_lit rfl) d_Mo_ended_23 ?_
  refine k_goto (pc := 24) (tgt := 28) d_Mo_ended_24 rfl ?_
  cases hf
  exact k_zret (pc := 28) d_Mo_ended_28 rfl (Or.inr rfl)
theorem b_Mo_ended_0 (a0 : Nat) (a1 : Int) (a2 : Int) (h : zH) (r : Int × zH) (hf : f_Mo_ended a0 a1 a2 h = some r) : zK m_Mo_ended 0 [(0, (2, ((a0 : Nat) : Int))), (1, (0, a1)), (2, (0, a2))] [] h (some (0, r.1), r.2) := by
  unfold f_Mo_ended at hf
  refine k_aload_n (pc := 0) rfl z_m0 d_Mo_ended_0 ?_
  refine k_iload_n (pc := 1) rfl z_m1 d_Mo_ended_1 ?_
  refine k_iload_n (pc := 2) rfl z_m2 d_Mo_ended_2 ?_
  obtain ⟨n1, e_n1, hf⟩ := z_bd hf
  obtain ⟨q2, e_q2, hf⟩ := z_bd hf
  refine k_callVi (pc := 3) (as := [(0, a1), (0, a2)]) (rest := []) d_Mo_ended_3 cw_Mo_ended_132 rfl (Nat.le_of_ble_eq_true rfl) (z_ck_of e_n1) (t_Mo_at e_q2) ?_
  refine k_istore_n (pc := 6) (L' := [(3, (0, q2.1)), (0, (2, ((a0 : Nat) : Int))), (1, (0, a1)), (2, (0, a2))]) rfl d_Mo_ended_6 (Nat.le_of_ble_eq_true rfl) rfl ?_
  refine k_iload_n (pc := 7) rfl z_m0 d_Mo_ended_7 ?_
  rcases z_it hf with ⟨w5, hf⟩ | ⟨w5, hf⟩
  · refine k_if_eq_t (pc := 8) (tgt := 23) w5 d_Mo_ended_8 rfl ?_
    refine k_sub [] rfl ?_
    exact b_Mo_ended_23 q2.2 _ hf
  · refine k_if_eq_f (pc := 8) (tgt := 23) w5 d_Mo_ended_8 rfl ?_
    refine k_iload_n (pc := 11) rfl z_m0 d_Mo_ended_11 ?_
    refine k_bipush (pc := 12) (zi_lit rfl) (by decide) d_Mo_ended_12 ?_
    rcases z_it hf with ⟨w4, hf⟩ | ⟨w4, hf⟩
    · refine k_ic_eq_t (pc := 14) (tgt := 23) w4 d_Mo_ended_14 rfl ?_
      refine k_sub [] rfl ?_
      exact b_Mo_ended_23 q2.2 _ hf
    · refine k_ic_eq_f (pc := 14) (tgt := 23) w4 d_Mo_ended_14 rfl ?_
      refine k_iload_n (pc := 17) rfl z_m0 d_Mo_ended_17 ?_
      refine k_bipush (pc := 18) (zi_lit rfl) (by decide) d_Mo_ended_18 ?_
      rcases z_it hf with ⟨w3, hf⟩ | ⟨w3, hf⟩
      · refine k_ic_ne_f (pc := 20) (tgt := 27) w3 d_Mo_ended_20 rfl ?_
        refine k_sub [] rfl ?_
        exact b_Mo_ended_23 q2.2 _ hf
      · refine k_ic_ne_t (pc := 20) (tgt := 27) w3 d_Mo_ended_20 rfl ?_
        refine k_iconst (pc := 27) (zi_lit rfl) d_Mo_ended_27 ?_
        cases hf
        exact k_zret (pc := 28) d_Mo_ended_28 rfl (Or.inl rfl)
theorem t_Mo_ended {a0 : Nat} {a1 : Int} {a2 : Int} {h : zH} {r : Int × zH} (hf : f_Mo_ended a0 a1 a2 h = some r) : zMt m_Mo_ended [(2, ((a0 : Nat) : Int)), (0, a1), (0, a2)] h (some (0, r.1), r.2) := zMt.of (by decide) (Nat.le_of_ble_eq_true rfl) (b_Mo_ended_0 a0 a1 a2 h r hf)
