/-! The bytecode comes to what the functions answer; printed by wip/gen/gen.py -/
theorem b_Mo_findBest_123 (c13 : Nat → Int → Int → Int → Int → zH → Option (Int × zH)) (k13 : ∀ (x0 : Nat) (x1 : Int) (x2 : Int) (x3 : Int) (x4 : Int) (g : zH) (r : Int × zH), c13 x0 x1 x2 x3 x4 g = some r → zK m_Mo_findBest 13 [(0, (2, ((x0 : Nat) : Int))), (1, (0, x1)), (2, (0, x2)), (3, (0, x3)), (4, (0, x4))] [] g (some (0, r.1), r.2)) (a0 : Nat) (a1 : Int) (a2 : Int) (a3 : Int) (a4 : Int) (h : zH) (r : Int × zH) (hf : f_Mo_findBest_123 c13 a0 a1 a2 a3 a4 h = some r) : zK m_Mo_findBest 123 [(0, (2, ((a0 : Nat) : Int))), (1, (0, a1)), (2, (0, a2)), (3, (0, a3)), (4, (0, a4))] [] h (some (0, r.1), r.2) := by
  unfold f_Mo_findBest_123 at hf
  refine k_iinc (pc := 123) (L' := [(4, (0, zw (a4 + 1))), (0, (2, ((a0 : Nat) : Int))), (1, (0, a1)), (2, (0, a2)), (3, (0, a3))]) z_m4 d_Mo_findBest_123 (Nat.le_of_ble_eq_true rfl) rfl ?_
  refine k_goto (pc := 126) (tgt := 13) d_Mo_findBest_126 rfl ?_
  refine k_sub [1, 2, 3, 4, 0] rfl ?_
  exact k13 a0 a1 a2 a3 (zw (a4 + 1)) h _ hf
theorem b_Mo_findBest_96 (c13 : Nat → Int → Int → Int → Int → zH → Option (Int × zH)) (k13 : ∀ (x0 : Nat) (x1 : Int) (x2 : Int) (x3 : Int) (x4 : Int) (g : zH) (r : Int × zH), c13 x0 x1 x2 x3 x4 g = some r → zK m_Mo_findBest 13 [(0, (2, ((x0 : Nat) : Int))), (1, (0, x1)), (2, (0, x2)), (3, (0, x3)), (4, (0, x4))] [] g (some (0, r.1), r.2)) : ∀ (n : Nat) (a0 : Nat) (a1 : Int) (a2 : Int) (a3 : Int) (a4 : Int) (a5 : Int) (h : zH) (r : Int × zH), f_Mo_findBest_96 c13 n a0 a1 a2 a3 a4 a5 h = some r → zK m_Mo_findBest 96 [(0, (2, ((a0 : Nat) : Int))), (1, (0, a1)), (2, (0, a2)), (3, (0, a3)), (4, (0, a4)), (5, (0, a5))] [] h (some (0, r.1), r.2) := by
  intro n
  induction n with
  | zero =>
    intro a0 a1 a2 a3 a4 a5 h r hf
    cases hf
  | succ n ih =>
    intro a0 a1 a2 a3 a4 a5 h r hf
    unfold f_Mo_findBest_96 at hf
    refine k_iload (pc := 96) z_m5 d_Mo_findBest_96 ?_
    refine k_bipush (pc := 98) (zi_lit rfl) (by decide) d_Mo_findBest_98 ?_
    rcases z_it hf with ⟨w5, hf⟩ | ⟨w5, hf⟩
    · refine k_ic_ge_t (pc := 100) (tgt := 123) w5 d_Mo_findBest_100 rfl ?_
      refine k_sub [0, 1, 2, 3, 4] rfl ?_
      exact b_Mo_findBest_123 c13 k13 a0 a1 a2 a3 a4 h _ hf
    · refine k_ic_ge_f (pc := 100) (tgt := 123) w5 d_Mo_findBest_100 rfl ?_
      refine k_aload_n (pc := 103) rfl z_m0 d_Mo_findBest_103 ?_
      obtain ⟨v1, e_v1, hf⟩ := z_bd hf
      refine k_getR (pc := 104) d_Mo_findBest_104 fd_Mo_113 rfl e_v1 ?_
      refine k_iload (pc := 107) z_m5 d_Mo_findBest_107 ?_
      refine k_aload_n (pc := 109) rfl z_m0 d_Mo_findBest_109 ?_
      obtain ⟨v2, e_v2, hf⟩ := z_bd hf
      refine k_getR (pc := 110) d_Mo_findBest_110 fd_Mo_65 rfl e_v2 ?_
      refine k_iload (pc := 113) z_m5 d_Mo_findBest_113 ?_
      obtain ⟨v3, e_v3, hf⟩ := z_bd hf
      refine k_iald (pc := 115) d_Mo_findBest_115 e_v3 ?_
      obtain ⟨h4, e_h4, hf⟩ := z_bd hf
      refine k_iast (pc := 116) d_Mo_findBest_116 e_h4 ?_
      refine k_iinc (pc := 117) (L' := [(5, (0, zw (a5 + 1))), (0, (2, ((a0 : Nat) : Int))), (1, (0, a1)), (2, (0, a2)), (3, (0, a3)), (4, (0, a4))]) z_m5 d_Mo_findBest_117 (Nat.le_of_ble_eq_true rfl) rfl ?_
      refine k_goto (pc := 120) (tgt := 96) d_Mo_findBest_120 rfl ?_
      refine k_sub [1, 2, 3, 4, 5, 0] rfl ?_
      exact ih a0 a1 a2 a3 a4 (zw (a5 + 1)) h4 _ hf
theorem b_Mo_findBest_66 (c13 : Nat → Int → Int → Int → Int → zH → Option (Int × zH)) (k13 : ∀ (x0 : Nat) (x1 : Int) (x2 : Int) (x3 : Int) (x4 : Int) (g : zH) (r : Int × zH), c13 x0 x1 x2 x3 x4 g = some r → zK m_Mo_findBest 13 [(0, (2, ((x0 : Nat) : Int))), (1, (0, x1)), (2, (0, x2)), (3, (0, x3)), (4, (0, x4))] [] g (some (0, r.1), r.2)) (a0 : Nat) (a1 : Int) (a2 : Int) (a3 : Int) (a4 : Int) (h : zH) (r : Int × zH) (hf : f_Mo_findBest_66 c13 a0 a1 a2 a3 a4 h = some r) : zK m_Mo_findBest 66 [(0, (2, ((a0 : Nat) : Int))), (1, (0, a1)), (2, (0, a2)), (3, (0, a3)), (4, (0, a4))] [] h (some (0, r.1), r.2) := by
  unfold f_Mo_findBest_66 at hf
  refine k_aload_n (pc := 66) rfl z_m0 d_Mo_findBest_66 ?_
  refine k_aload_n (pc := 67) rfl z_m0 d_Mo_findBest_67 ?_
  obtain ⟨v6, e_v6, hf⟩ := z_bd hf
  refine k_getR (pc := 68) d_Mo_findBest_68 fd_Mo_110 rfl e_v6 ?_
  refine k_iload (pc := 71) z_m4 d_Mo_findBest_71 ?_
  obtain ⟨v7, e_v7, hf⟩ := z_bd hf
  refine k_iald (pc := 73) d_Mo_findBest_73 e_v7 ?_
  obtain ⟨h8, e_h8, hf⟩ := z_bd hf
  refine k_putI (pc := 74) d_Mo_findBest_74 fd_Mo_213 (fun q => by cases q) rfl e_h8 ?_
  refine k_aload_n (pc := 77) rfl z_m0 d_Mo_findBest_77 ?_
  refine k_aload_n (pc := 78) rfl z_m0 d_Mo_findBest_78 ?_
  obtain ⟨v9, e_v9, hf⟩ := z_bd hf
  refine k_getI (pc := 79) d_Mo_findBest_79 fd_Mo_194 rfl e_v9 ?_
  obtain ⟨h10, e_h10, hf⟩ := z_bd hf
  refine k_putI (pc := 82) d_Mo_findBest_82 fd_Mo_219 (fun q => by cases q) rfl e_h10 ?_
  refine k_aload_n (pc := 85) rfl z_m0 d_Mo_findBest_85 ?_
  refine k_aload_n (pc := 86) rfl z_m0 d_Mo_findBest_86 ?_
  obtain ⟨v11, e_v11, hf⟩ := z_bd hf
  refine k_getI (pc := 87) d_Mo_findBest_87 fd_Mo_191 rfl e_v11 ?_
  obtain ⟨h12, e_h12, hf⟩ := z_bd hf
  refine k_putI (pc := 90) d_Mo_findBest_90 fd_Mo_222 (fun q => by cases q) rfl e_h12 ?_
  refine k_iconst (pc := 93) (zi_lit rfl) d_Mo_findBest_93 ?_
  refine k_istore (pc := 94) (L' := [(5, (0, 0)), (0, (2, ((a0 : Nat) : Int))), (1, (0, a1)), (2, (0, a2)), (3, (0, a3)), (4, (0, a4))]) d_Mo_findBest_94 (Nat.le_of_ble_eq_true rfl) rfl ?_
  refine k_sub [1, 2, 3, 4, 5, 0] rfl ?_
  exact b_Mo_findBest_96 c13 k13 100000 a0 a1 a2 a3 a4 0 h12 _ hf
theorem b_Mo_findBest_13 : ∀ (n : Nat) (a0 : Nat) (a1 : Int) (a2 : Int) (a3 : Int) (a4 : Int) (h : zH) (r : Int × zH), f_Mo_findBest_13 n a0 a1 a2 a3 a4 h = some r → zK m_Mo_findBest 13 [(0, (2, ((a0 : Nat) : Int))), (1, (0, a1)), (2, (0, a2)), (3, (0, a3)), (4, (0, a4))] [] h (some (0, r.1), r.2) := by
  intro n
  induction n with
  | zero =>
    intro a0 a1 a2 a3 a4 h r hf
    cases hf
  | succ n ih =>
    intro a0 a1 a2 a3 a4 h r hf
    unfold f_Mo_findBest_13 at hf
    refine k_iload (pc := 13) z_m4 d_Mo_findBest_13 ?_
    refine k_iload_n (pc := 15) rfl z_m3 d_Mo_findBest_15 ?_
    rcases z_it hf with ⟨w26, hf⟩ | ⟨w26, hf⟩
    · refine k_ic_ge_t (pc := 16) (tgt := 129) w26 d_Mo_findBest_16 rfl ?_
      refine k_iconst (pc := 129) (zi_lit rfl) d_Mo_findBest_129 ?_
      cases hf
      exact k_zret (pc := 130) d_Mo_findBest_130 rfl (Or.inr rfl)
    · refine k_ic_ge_f (pc := 16) (tgt := 129) w26 d_Mo_findBest_16 rfl ?_
      refine k_aload_n (pc := 19) rfl z_m0 d_Mo_findBest_19 ?_
      refine k_aload_n (pc := 20) rfl z_m0 d_Mo_findBest_20 ?_
      obtain ⟨v13, e_v13, hf⟩ := z_bd hf
      refine k_getR (pc := 21) d_Mo_findBest_21 fd_Mo_110 rfl e_v13 ?_
      refine k_iload (pc := 24) z_m4 d_Mo_findBest_24 ?_
      obtain ⟨v14, e_v14, hf⟩ := z_bd hf
      refine k_iald (pc := 26) d_Mo_findBest_26 e_v14 ?_
      refine k_iload_n (pc := 27) rfl z_m1 d_Mo_findBest_27 ?_
      refine k_iload_n (pc := 28) rfl z_m2 d_Mo_findBest_28 ?_
      obtain ⟨n15, e_n15, hf⟩ := z_bd hf
      obtain ⟨h16, e_h16, hf⟩ := z_bd hf
      refine k_callVv (pc := 29) (as := [(0, v14), (0, a1), (0, a2)]) (rest := []) d_Mo_findBest_29 cw_Mo_findBest_216 rfl (Nat.le_of_ble_eq_true rfl) (z_ck_of e_n15) (t_Mo_search e_h16) ?_
      refine k_aload_n (pc := 32) rfl z_m0 d_Mo_findBest_32 ?_
      obtain ⟨v17, e_v17, hf⟩ := z_bd hf
      refine k_getI (pc := 33) d_Mo_findBest_33 fd_Mo_169 rfl e_v17 ?_
      rcases z_it hf with ⟨w25, hf⟩ | ⟨w25, hf⟩
      · refine k_if_eq_t (pc := 36) (tgt := 41) w25 d_Mo_findBest_36 rfl ?_
        refine k_aload_n (pc := 41) rfl z_m0 d_Mo_findBest_41 ?_
        obtain ⟨v18, e_v18, hf⟩ := z_bd hf
        refine k_getI (pc := 42) d_Mo_findBest_42 fd_Mo_194 rfl e_v18 ?_
        rcases z_it hf with ⟨w24, hf⟩ | ⟨w24, hf⟩
        · refine k_if_lt_t (pc := 45) (tgt := 123) w24 d_Mo_findBest_45 rfl ?_
          exact b_Mo_findBest_123 (f_Mo_findBest_13 n) ih a0 a1 a2 a3 a4 h16 _ hf
        · refine k_if_lt_f (pc := 45) (tgt := 123) w24 d_Mo_findBest_45 rfl ?_
          refine k_aload_n (pc := 48) rfl z_m0 d_Mo_findBest_48 ?_
          obtain ⟨v19, e_v19, hf⟩ := z_bd hf
          refine k_getI (pc := 49) d_Mo_findBest_49 fd_Mo_213 rfl e_v19 ?_
          rcases z_it hf with ⟨w23, hf⟩ | ⟨w23, hf⟩
          · refine k_if_lt_t (pc := 52) (tgt := 66) w23 d_Mo_findBest_52 rfl ?_
            exact b_Mo_findBest_66 (f_Mo_findBest_13 n) ih a0 a1 a2 a3 a4 h16 _ hf
          · refine k_if_lt_f (pc := 52) (tgt := 66) w23 d_Mo_findBest_52 rfl ?_
            refine k_aload_n (pc := 55) rfl z_m0 d_Mo_findBest_55 ?_
            obtain ⟨v20, e_v20, hf⟩ := z_bd hf
            refine k_getI (pc := 56) d_Mo_findBest_56 fd_Mo_194 rfl e_v20 ?_
            refine k_aload_n (pc := 59) rfl z_m0 d_Mo_findBest_59 ?_
            obtain ⟨v21, e_v21, hf⟩ := z_bd hf
            refine k_getI (pc := 60) d_Mo_findBest_60 fd_Mo_219 rfl e_v21 ?_
            rcases z_it hf with ⟨w22, hf⟩ | ⟨w22, hf⟩
            · refine k_ic_ge_t (pc := 63) (tgt := 123) w22 d_Mo_findBest_63 rfl ?_
              exact b_Mo_findBest_123 (f_Mo_findBest_13 n) ih a0 a1 a2 a3 a4 h16 _ hf
            · refine k_ic_ge_f (pc := 63) (tgt := 123) w22 d_Mo_findBest_63 rfl ?_
              exact b_Mo_findBest_66 (f_Mo_findBest_13 n) ih a0 a1 a2 a3 a4 h16 _ hf
      · refine k_if_eq_f (pc := 36) (tgt := 41) w25 d_Mo_findBest_36 rfl ?_
        refine k_iconst (pc := 39) (zi_lit rfl) d_Mo_findBest_39 ?_
        cases hf
        exact k_zret (pc := 40) d_Mo_findBest_40 rfl (Or.inl rfl)
theorem b_Mo_findBest_0 (a0 : Nat) (a1 : Int) (a2 : Int) (h : zH) (r : Int × zH) (hf : f_Mo_findBest a0 a1 a2 h = some r) : zK m_Mo_findBest 0 [(0, (2, ((a0 : Nat) : Int))), (1, (0, a1)), (2, (0, a2))] [] h (some (0, r.1), r.2) := by
  unfold f_Mo_findBest at hf
  refine k_aload_n (pc := 0) rfl z_m0 d_Mo_findBest_0 ?_
  obtain ⟨n27, e_n27, hf⟩ := z_bd hf
  obtain ⟨q28, e_q28, hf⟩ := z_bd hf
  refine k_callVi (pc := 1) (as := []) (rest := []) d_Mo_findBest_1 cw_Mo_findBest_209 rfl (Nat.le_of_ble_eq_true rfl) (z_ck_of e_n27) (t_Mo_gather e_q28) ?_
  refine k_istore_n (pc := 4) (L' := [(3, (0, q28.1)), (0, (2, ((a0 : Nat) : Int))), (1, (0, a1)), (2, (0, a2))]) rfl d_Mo_findBest_4 (Nat.le_of_ble_eq_true rfl) rfl ?_
  refine k_aload_n (pc := 5) rfl z_m1 d_Mo_findBest_5 ?_
  refine k_iconst (pc := 6) (zi_lit rfl) d_Mo_findBest_6 ?_
  obtain ⟨h29, e_h29, hf⟩ := z_bd hf
  refine k_putI (pc := 7) d_Mo_findBest_7 fd_Mo_213 (fun q => by cases q) rfl e_h29 ?_
  refine k_iconst (pc := 10) (zi_lit rfl) d_Mo_findBest_10 ?_
  refine k_istore (pc := 11) (L' := [(4, (0, 0)), (3, (0, q28.1)), (0, (2, ((a0 : Nat) : Int))), (1, (0, a1)), (2, (0, a2))]) d_Mo_findBest_11 (Nat.le_of_ble_eq_true rfl) rfl ?_
  refine k_sub [2, 3, 4, 1, 0] rfl ?_
  exact b_Mo_findBest_13 100000 a0 a1 a2 q28.1 0 h29 _ hf
theorem t_Mo_findBest {a0 : Nat} {a1 : Int} {a2 : Int} {h : zH} {r : Int × zH} (hf : f_Mo_findBest a0 a1 a2 h = some r) : zMt m_Mo_findBest [(2, ((a0 : Nat) : Int)), (0, a1), (0, a2)] h (some (0, r.1), r.2) := zMt.of (by decide) (Nat.le_of_ble_eq_true rfl) (b_Mo_findBest_0 a0 a1 a2 h r hf)
theorem b_Mo_cutOff_126 (a0 : Nat) (a1 : Int) (s0 : Nat) (s1 : Int) (s2 : Int) (h : zH) (r : zH) (hf : f_Mo_cutOff_126 a0 a1 s0 s1 s2 h = some r) : zK m_Mo_cutOff 126 [(0, (2, ((a0 : Nat) : Int))), (1, (0, a1))] [(0, s2), (0, s1), (2, ((s0 : Nat) : Int))] h (none, r) := by
  unfold f_Mo_cutOff_126 at hf
  obtain ⟨h1, e_h1, hf⟩ := z_bd hf
  refine k_iast (pc := 126) d_Mo_cutOff_126 e_h1 ?_
  refine k_aload_n (pc := 127) rfl z_m0 d_Mo_cutOff_127 ?_
  obtain ⟨v2, e_v2, hf⟩ := z_bd hf
  refine k_getR (pc := 128) d_Mo_cutOff_128 fd_Mo_86 rfl e_v2 ?_
  refine k_iload_n (pc := 131) rfl z_m1 d_Mo_cutOff_131 ?_
  refine k_dup2 (pc := 132) (Or.inl rfl) (Or.inr rfl) d_Mo_cutOff_132 ?_
  obtain ⟨v3, e_v3, hf⟩ := z_bd hf
  refine k_iald (pc := 133) d_Mo_cutOff_133 e_v3 ?_
  refine k_iconst (pc := 134) (zi_lit rfl) d_Mo_cutOff_134 ?_
  refine k_iadd (pc := 135) d_Mo_cutOff_135 ?_
  obtain ⟨h4, e_h4, hf⟩ := z_bd hf
  refine k_iast (pc := 136) d_Mo_cutOff_136 e_h4 ?_
  cases hf
  exact k_ret (pc := 137) d_Mo_cutOff_137 rfl
theorem b_Mo_cutOff_30 : ∀ (n : Nat) (a0 : Nat) (a1 : Int) (a4 : Int) (a5 : Int) (a6 : Int) (h : zH) (r : zH), f_Mo_cutOff_30 n a0 a1 a4 a5 a6 h = some r → zK m_Mo_cutOff 30 [(0, (2, ((a0 : Nat) : Int))), (1, (0, a1)), (4, (0, a4)), (5, (0, a5)), (6, (0, a6))] [] h (none, r) := by
  intro n
  induction n with
  | zero =>
    intro a0 a1 a4 a5 a6 h r hf
    cases hf
  | succ n ih =>
    intro a0 a1 a4 a5 a6 h r hf
    unfold f_Mo_cutOff_30 at hf
    refine k_iload (pc := 30) z_m4 d_Mo_cutOff_30 ?_
    refine k_aload_n (pc := 32) rfl z_m0 d_Mo_cutOff_32 ?_
    obtain ⟨v5, e_v5, hf⟩ := z_bd hf
    refine k_getR (pc := 33) d_Mo_cutOff_33 fd_Mo_98 rfl e_v5 ?_
    refine k_bipush (pc := 36) (zi_lit rfl) (by decide) d_Mo_cutOff_36 ?_
    obtain ⟨v6, e_v6, hf⟩ := z_bd hf
    refine k_iald (pc := 38) d_Mo_cutOff_38 e_v6 ?_
    rcases z_it hf with ⟨w23, hf⟩ | ⟨w23, hf⟩
    · refine k_ic_ge_t (pc := 39) (tgt := 76) w23 d_Mo_cutOff_39 rfl ?_
      refine k_aload_n (pc := 76) rfl z_m0 d_Mo_cutOff_76 ?_
      obtain ⟨v7, e_v7, hf⟩ := z_bd hf
      refine k_getR (pc := 77) d_Mo_cutOff_77 fd_Mo_95 rfl e_v7 ?_
      refine k_bipush (pc := 80) (zi_lit rfl) (by decide) d_Mo_cutOff_80 ?_
      refine k_iload (pc := 82) z_m3 d_Mo_cutOff_82 ?_
      refine k_imul (pc := 84) d_Mo_cutOff_84 ?_
      refine k_aload_n (pc := 85) rfl z_m0 d_Mo_cutOff_85 ?_
      obtain ⟨v8, e_v8, hf⟩ := z_bd hf
      refine k_getR (pc := 86) d_Mo_cutOff_86 fd_Mo_98 rfl e_v8 ?_
      refine k_bipush (pc := 89) (zi_lit rfl) (by decide) d_Mo_cutOff_89 ?_
      obtain ⟨v9, e_v9, hf⟩ := z_bd hf
      refine k_iald (pc := 91) d_Mo_cutOff_91 e_v9 ?_
      refine k_iadd (pc := 92) d_Mo_cutOff_92 ?_
      refine k_iload (pc := 93) z_m2 d_Mo_cutOff_93 ?_
      obtain ⟨h10, e_h10, hf⟩ := z_bd hf
      refine k_iast (pc := 95) d_Mo_cutOff_95 e_h10 ?_
      refine k_aload_n (pc := 96) rfl z_m0 d_Mo_cutOff_96 ?_
      obtain ⟨v11, e_v11, hf⟩ := z_bd hf
      refine k_getR (pc := 97) d_Mo_cutOff_97 fd_Mo_92 rfl e_v11 ?_
      refine k_iload (pc := 100) z_m3 d_Mo_cutOff_100 ?_
      refine k_iload (pc := 102) z_m2 d_Mo_cutOff_102 ?_
      rcases z_it hf with ⟨w16, hf⟩ | ⟨w16, hf⟩
      · refine k_if_le_t (pc := 104) (tgt := 119) w16 d_Mo_cutOff_104 rfl ?_
        refine k_aload_n (pc := 119) rfl z_m0 d_Mo_cutOff_119 ?_
        obtain ⟨v12, e_v12, hf⟩ := z_bd hf
        refine k_getR (pc := 120) d_Mo_cutOff_120 fd_Mo_98 rfl e_v12 ?_
        refine k_bipush (pc := 123) (zi_lit rfl) (by decide) d_Mo_cutOff_123 ?_
        obtain ⟨v13, e_v13, hf⟩ := z_bd hf
        refine k_iald (pc := 125) d_Mo_cutOff_125 e_v13 ?_
        refine k_sub [0, 1] rfl ?_
        exact b_Mo_cutOff_126 a0 a1 v11 a5 v13 h10 _ hf
      · refine k_if_le_f (pc := 104) (tgt := 119) w16 d_Mo_cutOff_104 rfl ?_
        refine k_aload_n (pc := 107) rfl z_m0 d_Mo_cutOff_107 ?_
        obtain ⟨v14, e_v14, hf⟩ := z_bd hf
        refine k_getR (pc := 108) d_Mo_cutOff_108 fd_Mo_98 rfl e_v14 ?_
        refine k_bipush (pc := 111) (zi_lit rfl) (by decide) d_Mo_cutOff_111 ?_
        obtain ⟨v15, e_v15, hf⟩ := z_bd hf
        refine k_iald (pc := 113) d_Mo_cutOff_113 e_v15 ?_
        refine k_iconst (pc := 114) (zi_lit rfl) d_Mo_cutOff_114 ?_
        refine k_iadd (pc := 115) d_Mo_cutOff_115 ?_
        refine k_goto (pc := 116) (tgt := 126) d_Mo_cutOff_116 rfl ?_
        refine k_sub [0, 1] rfl ?_
        exact b_Mo_cutOff_126 a0 a1 v11 a5 (zw (v15 + 1)) h10 _ hf
    · refine k_ic_ge_f (pc := 39) (tgt := 76) w23 d_Mo_cutOff_39 rfl ?_
      refine k_aload_n (pc := 42) rfl z_m0 d_Mo_cutOff_42 ?_
      obtain ⟨v17, e_v17, hf⟩ := z_bd hf
      refine k_getR (pc := 43) d_Mo_cutOff_43 fd_Mo_95 rfl e_v17 ?_
      refine k_bipush (pc := 46) (zi_lit rfl) (by decide) d_Mo_cutOff_46 ?_
      refine k_iload (pc := 48) z_m3 d_Mo_cutOff_48 ?_
      refine k_imul (pc := 50) d_Mo_cutOff_50 ?_
      refine k_iload (pc := 51) z_m4 d_Mo_cutOff_51 ?_
      refine k_iadd (pc := 53) d_Mo_cutOff_53 ?_
      refine k_aload_n (pc := 54) rfl z_m0 d_Mo_cutOff_54 ?_
      obtain ⟨v18, e_v18, hf⟩ := z_bd hf
      refine k_getR (pc := 55) d_Mo_cutOff_55 fd_Mo_20 rfl e_v18 ?_
      refine k_aload_n (pc := 58) rfl z_m0 d_Mo_cutOff_58 ?_
      obtain ⟨v19, e_v19, hf⟩ := z_bd hf
      refine k_getR (pc := 59) d_Mo_cutOff_59 fd_Mo_101 rfl e_v19 ?_
      refine k_bipush (pc := 62) (zi_lit rfl) (by decide) d_Mo_cutOff_62 ?_
      refine k_iload (pc := 64) z_m4 d_Mo_cutOff_64 ?_
      refine k_iadd (pc := 66) d_Mo_cutOff_66 ?_
      obtain ⟨v20, e_v20, hf⟩ := z_bd hf
      refine k_iald (pc := 67) d_Mo_cutOff_67 e_v20 ?_
      obtain ⟨v21, e_v21, hf⟩ := z_bd hf
      refine k_iald (pc := 68) d_Mo_cutOff_68 e_v21 ?_
      obtain ⟨h22, e_h22, hf⟩ := z_bd hf
      refine k_iast (pc := 69) d_Mo_cutOff_69 e_h22 ?_
      refine k_iinc (pc := 70) (L' := [(6, (0, zw (a6 + 1))), (0, (2, ((a0 : Nat) : Int))), (1, (0, a1)), (4, (0, a4)), (5, (0, a5))]) z_m4 d_Mo_cutOff_70 (Nat.le_of_ble_eq_true rfl) rfl ?_
      refine k_goto (pc := 73) (tgt := 30) d_Mo_cutOff_73 rfl ?_
      refine k_sub [1, 2, 3, 4, 0] rfl ?_
      exact ih a0 a1 a4 a5 (zw (a6 + 1)) h22 _ hf
theorem b_Mo_cutOff_0 (a0 : Nat) (a1 : Int) (a2 : Int) (a3 : Int) (a4 : Int) (h : zH) (r : zH) (hf : f_Mo_cutOff a0 a1 a2 a3 a4 h = some r) : zK m_Mo_cutOff 0 [(0, (2, ((a0 : Nat) : Int))), (1, (0, a1)), (2, (0, a2)), (3, (0, a3)), (4, (0, a4))] [] h (none, r) := by
  unfold f_Mo_cutOff at hf
  refine k_iload_n (pc := 0) rfl z_m2 d_Mo_cutOff_0 ?_
  refine k_iload_n (pc := 1) rfl z_m3 d_Mo_cutOff_1 ?_
  rcases z_it hf with ⟨w28, hf⟩ | ⟨w28, hf⟩
  · refine k_ic_lt_t (pc := 2) (tgt := 6) w28 d_Mo_cutOff_2 rfl ?_
    refine k_bipush (pc := 6) (zi_lit rfl) (by decide) d_Mo_cutOff_6 ?_
    refine k_iload_n (pc := 8) rfl z_m1 d_Mo_cutOff_8 ?_
    refine k_imul (pc := 9) d_Mo_cutOff_9 ?_
    refine k_aload_n (pc := 10) rfl z_m0 d_Mo_cutOff_10 ?_
    obtain ⟨v24, e_v24, hf⟩ := z_bd hf
    refine k_getR (pc := 11) d_Mo_cutOff_11 fd_Mo_86 rfl e_v24 ?_
    refine k_iload_n (pc := 14) rfl z_m1 d_Mo_cutOff_14 ?_
    obtain ⟨v25, e_v25, hf⟩ := z_bd hf
    refine k_iald (pc := 15) d_Mo_cutOff_15 e_v25 ?_
    refine k_iadd (pc := 16) d_Mo_cutOff_16 ?_
    refine k_istore (pc := 17) (L' := [(5, (0, zw ((zw (24 * a1)) + v25))), (0, (2, ((a0 : Nat) : Int))), (1, (0, a1)), (2, (0, a2)), (3, (0, a3)), (4, (0, a4))]) d_Mo_cutOff_17 (Nat.le_of_ble_eq_true rfl) rfl ?_
    refine k_aload_n (pc := 19) rfl z_m1 d_Mo_cutOff_19 ?_
    obtain ⟨v26, e_v26, hf⟩ := z_bd hf
    refine k_getR (pc := 20) d_Mo_cutOff_20 fd_Mo_89 rfl e_v26 ?_
    refine k_iload (pc := 23) z_m0 d_Mo_cutOff_23 ?_
    refine k_iload_n (pc := 25) rfl z_m3 d_Mo_cutOff_25 ?_
    obtain ⟨h27, e_h27, hf⟩ := z_bd hf
    refine k_iast (pc := 26) d_Mo_cutOff_26 e_h27 ?_
    refine k_iconst (pc := 27) (zi_lit rfl) d_Mo_cutOff_27 ?_
    refine k_istore (pc := 28) (L' := [(6, (0, 0)), (5, (0, zw ((zw (24 * a1)) + v25))), (0, (2, ((a0 : Nat) : Int))), (1, (0, a1)), (2, (0, a2)), (3, (0, a3)), (4, (0, a4))]) d_Mo_cutOff_28 (Nat.le_of_ble_eq_true rfl) rfl ?_
    refine k_sub [2, 3, 6, 1, 0] rfl ?_
    exact b_Mo_cutOff_30 100000 a0 a1 a4 (zw ((zw (24 * a1)) + v25)) 0 h27 _ hf
  · refine k_ic_lt_f (pc := 2) (tgt := 6) w28 d_Mo_cutOff_2 rfl ?_
    cases hf
    exact k_ret (pc := 5) d_Mo_cutOff_5 rfl
theorem t_Mo_cutOff {a0 : Nat} {a1 : Int} {a2 : Int} {a3 : Int} {a4 : Int} {h : zH} {r : zH} (hf : f_Mo_cutOff a0 a1 a2 a3 a4 h = some r) : zMt m_Mo_cutOff [(2, ((a0 : Nat) : Int)), (0, a1), (0, a2), (0, a3), (0, a4)] h (none, r) := zMt.of (by decide) (Nat.le_of_ble_eq_true rfl) (b_Mo_cutOff_0 a0 a1 a2 a3 a4 h r hf)
theorem b_Mo_openRange_89 (c21 : Nat → Int → Int → Int → zH → Option (zH)) (k21 : ∀ (x0 : Nat) (x1 : Int) (x3 : Int) (x4 : Int) (g : zH) (r : zH), c21 x0 x1 x3 x4 g = some r → zK m_Mo_openRange 21 [(0, (2, ((x0 : Nat) : Int))), (1, (0, x1)), (3, (0, x3)), (4, (0, x4))] [] g (none, r)) : ∀ (n : Nat) (a0 : Nat) (a1 : Int) (a3 : Int) (a4 : Int) (a5 : Int) (a6 : Int) (a7 : Int) (h : zH) (r : zH), f_Mo_openRange_89 c21 n a0 a1 a3 a4 a5 a6 a7 h = some r → zK m_Mo_openRange 89 [(0, (2, ((a0 : Nat) : Int))), (1, (0, a1)), (3, (0, a3)), (4, (0, a4)), (5, (0, a5)), (6, (0, a6)), (7, (0, a7))] [] h (none, r) := by
  intro n
  induction n with
  | zero =>
    intro a0 a1 a3 a4 a5 a6 a7 h r hf
    cases hf
  | succ n ih =>
    intro a0 a1 a3 a4 a5 a6 a7 h r hf
    unfold f_Mo_openRange_89 at hf
    refine k_iload (pc := 89) z_m6 d_Mo_openRange_89 ?_
    refine k_iload (pc := 91) z_m5 d_Mo_openRange_91 ?_
    rcases z_it hf with ⟨w7, hf⟩ | ⟨w7, hf⟩
    · refine k_ic_ge_t (pc := 93) (tgt := 141) w7 d_Mo_openRange_93 rfl ?_
      refine k_iinc (pc := 141) (L' := [(4, (0, zw (a4 + 1))), (0, (2, ((a0 : Nat) : Int))), (1, (0, a1)), (3, (0, a3)), (5, (0, a5)), (6, (0, a6)), (7, (0, a7))]) z_m3 d_Mo_openRange_141 (Nat.le_of_ble_eq_true rfl) rfl ?_
      refine k_goto (pc := 144) (tgt := 21) d_Mo_openRange_144 rfl ?_
      refine k_sub [1, 2, 3, 0] rfl ?_
      exact k21 a0 a1 a3 (zw (a4 + 1)) h _ hf
    · refine k_ic_ge_f (pc := 93) (tgt := 141) w7 d_Mo_openRange_93 rfl ?_
      refine k_aload_n (pc := 96) rfl z_m0 d_Mo_openRange_96 ?_
      obtain ⟨v1, e_v1, hf⟩ := z_bd hf
      refine k_getR (pc := 97) d_Mo_openRange_97 fd_Mo_107 rfl e_v1 ?_
      refine k_sipush (pc := 100) (zi_lit rfl) (by decide) d_Mo_openRange_100 ?_
      refine k_bipush (pc := 103) (zi_lit rfl) (by decide) d_Mo_openRange_103 ?_
      refine k_iload (pc := 105) z_m4 d_Mo_openRange_105 ?_
      refine k_imul (pc := 107) d_Mo_openRange_107 ?_
      refine k_iadd (pc := 108) d_Mo_openRange_108 ?_
      refine k_iload (pc := 109) z_m6 d_Mo_openRange_109 ?_
      refine k_iadd (pc := 111) d_Mo_openRange_111 ?_
      refine k_aload_n (pc := 112) rfl z_m0 d_Mo_openRange_112 ?_
      obtain ⟨v2, e_v2, hf⟩ := z_bd hf
      refine k_getR (pc := 113) d_Mo_openRange_113 fd_Mo_80 rfl e_v2 ?_
      refine k_bipush (pc := 116) (zi_lit rfl) (by decide) d_Mo_openRange_116 ?_
      refine k_iload_n (pc := 118) rfl z_m1 d_Mo_openRange_118 ?_
      refine k_imul (pc := 119) d_Mo_openRange_119 ?_
      refine k_aload_n (pc := 120) rfl z_m0 d_Mo_openRange_120 ?_
      obtain ⟨v3, e_v3, hf⟩ := z_bd hf
      refine k_getR (pc := 121) d_Mo_openRange_121 fd_Mo_113 rfl e_v3 ?_
      refine k_iconst (pc := 124) (zi_lit rfl) d_Mo_openRange_124 ?_
      refine k_iload (pc := 125) z_m3 d_Mo_openRange_125 ?_
      refine k_imul (pc := 127) d_Mo_openRange_127 ?_
      obtain ⟨v4, e_v4, hf⟩ := z_bd hf
      refine k_iald (pc := 128) d_Mo_openRange_128 e_v4 ?_
      refine k_iadd (pc := 129) d_Mo_openRange_129 ?_
      refine k_iload (pc := 130) z_m6 d_Mo_openRange_130 ?_
      refine k_iadd (pc := 132) d_Mo_openRange_132 ?_
      obtain ⟨v5, e_v5, hf⟩ := z_bd hf
      refine k_iald (pc := 133) d_Mo_openRange_133 e_v5 ?_
      obtain ⟨h6, e_h6, hf⟩ := z_bd hf
      refine k_iast (pc := 134) d_Mo_openRange_134 e_h6 ?_
      refine k_iinc (pc := 135) (L' := [(7, (0, zw (a7 + 1))), (0, (2, ((a0 : Nat) : Int))), (1, (0, a1)), (3, (0, a3)), (4, (0, a4)), (5, (0, a5)), (6, (0, a6))]) z_m6 d_Mo_openRange_135 (Nat.le_of_ble_eq_true rfl) rfl ?_
      refine k_goto (pc := 138) (tgt := 89) d_Mo_openRange_138 rfl ?_
      refine k_sub [1, 2, 3, 4, 5, 6, 0] rfl ?_
      exact ih a0 a1 a3 a4 a5 a6 (zw (a7 + 1)) h6 _ hf
theorem b_Mo_openRange_72 (c21 : Nat → Int → Int → Int → zH → Option (zH)) (k21 : ∀ (x0 : Nat) (x1 : Int) (x3 : Int) (x4 : Int) (g : zH) (r : zH), c21 x0 x1 x3 x4 g = some r → zK m_Mo_openRange 21 [(0, (2, ((x0 : Nat) : Int))), (1, (0, x1)), (3, (0, x3)), (4, (0, x4))] [] g (none, r)) (a0 : Nat) (a1 : Int) (a3 : Int) (a4 : Int) (a5 : Int) (s0 : Int) (h : zH) (r : zH) (hf : f_Mo_openRange_72 c21 a0 a1 a3 a4 a5 s0 h = some r) : zK m_Mo_openRange 72 [(0, (2, ((a0 : Nat) : Int))), (1, (0, a1)), (3, (0, a3)), (4, (0, a4)), (5, (0, a5))] [(0, s0)] h (none, r) := by
  unfold f_Mo_openRange_72 at hf
  refine k_istore (pc := 72) (L' := [(6, (0, s0)), (0, (2, ((a0 : Nat) : Int))), (1, (0, a1)), (3, (0, a3)), (4, (0, a4)), (5, (0, a5))]) d_Mo_openRange_72 (Nat.le_of_ble_eq_true rfl) rfl ?_
  refine k_aload_n (pc := 74) rfl z_m1 d_Mo_openRange_74 ?_
  obtain ⟨v8, e_v8, hf⟩ := z_bd hf
  refine k_getR (pc := 75) d_Mo_openRange_75 fd_Mo_104 rfl e_v8 ?_
  refine k_bipush (pc := 78) (zi_lit rfl) (by decide) d_Mo_openRange_78 ?_
  refine k_iload (pc := 80) z_m5 d_Mo_openRange_80 ?_
  refine k_iadd (pc := 82) d_Mo_openRange_82 ?_
  refine k_iload (pc := 83) z_m0 d_Mo_openRange_83 ?_
  obtain ⟨h9, e_h9, hf⟩ := z_bd hf
  refine k_iast (pc := 85) d_Mo_openRange_85 e_h9 ?_
  refine k_iconst (pc := 86) (zi_lit rfl) d_Mo_openRange_86 ?_
  refine k_istore (pc := 87) (L' := [(7, (0, 0)), (6, (0, s0)), (0, (2, ((a0 : Nat) : Int))), (1, (0, a1)), (3, (0, a3)), (4, (0, a4)), (5, (0, a5))]) d_Mo_openRange_87 (Nat.le_of_ble_eq_true rfl) rfl ?_
  refine k_sub [2, 3, 4, 5, 6, 1, 0] rfl ?_
  exact b_Mo_openRange_89 c21 k21 100000 a0 a1 a3 a4 a5 s0 0 h9 _ hf
theorem b_Mo_openRange_21 : ∀ (n : Nat) (a0 : Nat) (a1 : Int) (a3 : Int) (a4 : Int) (h : zH) (r : zH), f_Mo_openRange_21 n a0 a1 a3 a4 h = some r → zK m_Mo_openRange 21 [(0, (2, ((a0 : Nat) : Int))), (1, (0, a1)), (3, (0, a3)), (4, (0, a4))] [] h (none, r) := by
  intro n
  induction n with
  | zero =>
    intro a0 a1 a3 a4 h r hf
    cases hf
  | succ n ih =>
    intro a0 a1 a3 a4 h r hf
    unfold f_Mo_openRange_21 at hf
    refine k_iload (pc := 21) z_m3 d_Mo_openRange_21 ?_
    refine k_iconst (pc := 23) (zi_lit rfl) d_Mo_openRange_23 ?_
    rcases z_it hf with ⟨w20, hf⟩ | ⟨w20, hf⟩
    · refine k_ic_ge_t (pc := 24) (tgt := 147) w20 d_Mo_openRange_24 rfl ?_
      refine k_aload_n (pc := 147) rfl z_m0 d_Mo_openRange_147 ?_
      obtain ⟨v10, e_v10, hf⟩ := z_bd hf
      refine k_getR (pc := 148) d_Mo_openRange_148 fd_Mo_98 rfl e_v10 ?_
      refine k_bipush (pc := 151) (zi_lit rfl) (by decide) d_Mo_openRange_151 ?_
      refine k_dup2 (pc := 153) (Or.inl rfl) (Or.inr rfl) d_Mo_openRange_153 ?_
      obtain ⟨v11, e_v11, hf⟩ := z_bd hf
      refine k_iald (pc := 154) d_Mo_openRange_154 e_v11 ?_
      refine k_iconst (pc := 155) (zi_lit rfl) d_Mo_openRange_155 ?_
      refine k_iadd (pc := 156) d_Mo_openRange_156 ?_
      obtain ⟨h12, e_h12, hf⟩ := z_bd hf
      refine k_iast (pc := 157) d_Mo_openRange_157 e_h12 ?_
      cases hf
      exact k_ret (pc := 158) d_Mo_openRange_158 rfl
    · refine k_ic_ge_f (pc := 24) (tgt := 147) w20 d_Mo_openRange_24 rfl ?_
      refine k_iconst (pc := 27) (zi_lit rfl) d_Mo_openRange_27 ?_
      refine k_iload_n (pc := 28) rfl z_m2 d_Mo_openRange_28 ?_
      refine k_imul (pc := 29) d_Mo_openRange_29 ?_
      refine k_iload (pc := 30) z_m3 d_Mo_openRange_30 ?_
      refine k_iadd (pc := 32) d_Mo_openRange_32 ?_
      refine k_istore (pc := 33) (L' := [(5, (0, zw ((zw (2 * a3)) + a4))), (0, (2, ((a0 : Nat) : Int))), (1, (0, a1)), (3, (0, a3)), (4, (0, a4))]) d_Mo_openRange_33 (Nat.le_of_ble_eq_true rfl) rfl ?_
      refine k_aload_n (pc := 35) rfl z_m1 d_Mo_openRange_35 ?_
      obtain ⟨v13, e_v13, hf⟩ := z_bd hf
      refine k_getR (pc := 36) d_Mo_openRange_36 fd_Mo_113 rfl e_v13 ?_
      refine k_iconst (pc := 39) (zi_lit rfl) d_Mo_openRange_39 ?_
      refine k_iload (pc := 40) z_m4 d_Mo_openRange_40 ?_
      refine k_imul (pc := 42) d_Mo_openRange_42 ?_
      obtain ⟨v14, e_v14, hf⟩ := z_bd hf
      refine k_iald (pc := 43) d_Mo_openRange_43 e_v14 ?_
      rcases z_it hf with ⟨w19, hf⟩ | ⟨w19, hf⟩
      · refine k_if_ge_t (pc := 44) (tgt := 51) w19 d_Mo_openRange_44 rfl ?_
        refine k_aload_n (pc := 51) rfl z_m1 d_Mo_openRange_51 ?_
        obtain ⟨v15, e_v15, hf⟩ := z_bd hf
        refine k_getR (pc := 52) d_Mo_openRange_52 fd_Mo_113 rfl e_v15 ?_
        refine k_iconst (pc := 55) (zi_lit rfl) d_Mo_openRange_55 ?_
        refine k_iload (pc := 56) z_m4 d_Mo_openRange_56 ?_
        refine k_imul (pc := 58) d_Mo_openRange_58 ?_
        refine k_iconst (pc := 59) (zi_lit rfl) d_Mo_openRange_59 ?_
        refine k_iadd (pc := 60) d_Mo_openRange_60 ?_
        obtain ⟨v16, e_v16, hf⟩ := z_bd hf
        refine k_iald (pc := 61) d_Mo_openRange_61 e_v16 ?_
        refine k_aload_n (pc := 62) rfl z_m1 d_Mo_openRange_62 ?_
        obtain ⟨v17, e_v17, hf⟩ := z_bd hf
        refine k_getR (pc := 63) d_Mo_openRange_63 fd_Mo_113 rfl e_v17 ?_
        refine k_iconst (pc := 66) (zi_lit rfl) d_Mo_openRange_66 ?_
        refine k_iload (pc := 67) z_m4 d_Mo_openRange_67 ?_
        refine k_imul (pc := 69) d_Mo_openRange_69 ?_
        obtain ⟨v18, e_v18, hf⟩ := z_bd hf
        refine k_iald (pc := 70) d_Mo_openRange_70 e_v18 ?_
        refine k_isub (pc := 71) d_Mo_openRange_71 ?_
        refine k_sub [1, 2, 3, 4, 0] rfl ?_
        exact b_Mo_openRange_72 (f_Mo_openRange_21 n) ih a0 a1 a3 a4 (zw ((zw (2 * a3)) + a4)) (zw (v16 - v18)) h _ hf
      · refine k_if_ge_f (pc := 44) (tgt := 51) w19 d_Mo_openRange_44 rfl ?_
        refine k_iconst (pc := 47) (zi_lit rfl) d_Mo_openRange_47 ?_
        refine k_goto (pc := 48) (tgt := 72) d_Mo_openRange_48 rfl ?_
        refine k_sub [1, 2, 3, 4, 0] rfl ?_
        exact b_Mo_openRange_72 (f_Mo_openRange_21 n) ih a0 a1 a3 a4 (zw ((zw (2 * a3)) + a4)) 0 h _ hf
theorem b_Mo_openRange_0 (a0 : Nat) (a1 : Int) (a2 : Int) (h : zH) (r : zH) (hf : f_Mo_openRange a0 a1 a2 h = some r) : zK m_Mo_openRange 0 [(0, (2, ((a0 : Nat) : Int))), (1, (0, a1)), (2, (0, a2))] [] h (none, r) := by
  unfold f_Mo_openRange at hf
  refine k_aload_n (pc := 0) rfl z_m0 d_Mo_openRange_0 ?_
  obtain ⟨v21, e_v21, hf⟩ := z_bd hf
  refine k_getR (pc := 1) d_Mo_openRange_1 fd_Mo_98 rfl e_v21 ?_
  refine k_bipush (pc := 4) (zi_lit rfl) (by decide) d_Mo_openRange_4 ?_
  obtain ⟨v22, e_v22, hf⟩ := z_bd hf
  refine k_iald (pc := 6) d_Mo_openRange_6 e_v22 ?_
  refine k_istore_n (pc := 7) (L' := [(3, (0, v22)), (0, (2, ((a0 : Nat) : Int))), (1, (0, a1)), (2, (0, a2))]) rfl d_Mo_openRange_7 (Nat.le_of_ble_eq_true rfl) rfl ?_
  refine k_aload_n (pc := 8) rfl z_m1 d_Mo_openRange_8 ?_
  obtain ⟨v23, e_v23, hf⟩ := z_bd hf
  refine k_getR (pc := 9) d_Mo_openRange_9 fd_Mo_101 rfl e_v23 ?_
  refine k_bipush (pc := 12) (zi_lit rfl) (by decide) d_Mo_openRange_12 ?_
  refine k_iload_n (pc := 14) rfl z_m0 d_Mo_openRange_14 ?_
  refine k_iadd (pc := 15) d_Mo_openRange_15 ?_
  refine k_iload_n (pc := 16) rfl z_m3 d_Mo_openRange_16 ?_
  obtain ⟨h24, e_h24, hf⟩ := z_bd hf
  refine k_iast (pc := 17) d_Mo_openRange_17 e_h24 ?_
  refine k_iconst (pc := 18) (zi_lit rfl) d_Mo_openRange_18 ?_
  refine k_istore (pc := 19) (L' := [(4, (0, 0)), (3, (0, v22)), (0, (2, ((a0 : Nat) : Int))), (1, (0, a1)), (2, (0, a2))]) d_Mo_openRange_19 (Nat.le_of_ble_eq_true rfl) rfl ?_
  refine k_sub [2, 3, 1, 0] rfl ?_
  exact b_Mo_openRange_21 100000 a0 a1 v22 0 h24 _ hf
theorem t_Mo_openRange {a0 : Nat} {a1 : Int} {a2 : Int} {h : zH} {r : zH} (hf : f_Mo_openRange a0 a1 a2 h = some r) : zMt m_Mo_openRange [(2, ((a0 : Nat) : Int)), (0, a1), (0, a2)] h (none, r) := zMt.of (by decide) (Nat.le_of_ble_eq_true rfl) (b_Mo_openRange_0 a0 a1 a2 h r hf)
theorem b_Mo_tokenize_307 (a0 : Nat) (a1 : Int) (h : zH) (r : zH) (hf : f_Mo_tokenize_307 a0 a1 h = some r) : zK m_Mo_tokenize 307 [(0, (2, ((a0 : Nat) : Int))), (1, (0, a1))] [] h (none, r) := by
  unfold f_Mo_tokenize_307 at hf
  refine k_aload_n (pc := 307) rfl z_m0 d_Mo_tokenize_307 ?_
  refine k_bipush (pc := 308) (zi_lit rfl) (by decide) d_Mo_tokenize_308 ?_
  refine k_iload_n (pc := 310) rfl z_m1 d_Mo_tokenize_310 ?_
  obtain ⟨n1, e_n1, hf⟩ := z_bd hf
  obtain ⟨h2, e_h2, hf⟩ := z_bd hf
  refine k_callVv (pc := 311) (as := [(0, 6), (0, a1)]) (rest := []) d_Mo_tokenize_311 cw_Mo_tokenize_200 rfl (Nat.le_of_ble_eq_true rfl) (z_ck_of e_n1) (t_Mo_copyState e_h2) ?_
  cases hf
  exact k_ret (pc := 314) d_Mo_tokenize_314 rfl
theorem b_Mo_tokenize_301 (c36 : Nat → Int → Int → Int → Int → zH → Option (zH)) (k36 : ∀ (x0 : Nat) (x1 : Int) (x2 : Int) (x3 : Int) (x4 : Int) (g : zH) (r : zH), c36 x0 x1 x2 x3 x4 g = some r → zK m_Mo_tokenize 36 [(0, (2, ((x0 : Nat) : Int))), (1, (0, x1)), (2, (0, x2)), (3, (0, x3)), (4, (0, x4))] [] g (none, r)) (a0 : Nat) (a1 : Int) (a2 : Int) (a3 : Int) (a4 : Int) (h : zH) (r : zH) (hf : f_Mo_tokenize_301 c36 a0 a1 a2 a3 a4 h = some r) : zK m_Mo_tokenize 301 [(0, (2, ((a0 : Nat) : Int))), (1, (0, a1)), (2, (0, a2)), (3, (0, a3)), (4, (0, a4))] [] h (none, r) := by
  unfold f_Mo_tokenize_301 at hf
  refine k_iinc (pc := 301) (L' := [(4, (0, zw (a4 + 1))), (0, (2, ((a0 : Nat) : Int))), (1, (0, a1)), (2, (0, a2)), (3, (0, a3))]) z_m4 d_Mo_tokenize_301 (Nat.le_of_ble_eq_true rfl) rfl ?_
  refine k_goto (pc := 304) (tgt := 36) d_Mo_tokenize_304 rfl ?_
  refine k_sub [1, 2, 3, 4, 0] rfl ?_
  exact k36 a0 a1 a2 a3 (zw (a4 + 1)) h _ hf
theorem b_Mo_tokenize_190 (c36 : Nat → Int → Int → Int → Int → zH → Option (zH)) (k36 : ∀ (x0 : Nat) (x1 : Int) (x2 : Int) (x3 : Int) (x4 : Int) (g : zH) (r : zH), c36 x0 x1 x2 x3 x4 g = some r → zK m_Mo_tokenize 36 [(0, (2, ((x0 : Nat) : Int))), (1, (0, x1)), (2, (0, x2)), (3, (0, x3)), (4, (0, x4))] [] g (none, r)) (a0 : Nat) (a1 : Int) (a2 : Int) (a4 : Int) (h : zH) (r : zH) (hf : f_Mo_tokenize_190 c36 a0 a1 a2 a4 h = some r) : zK m_Mo_tokenize 190 [(0, (2, ((a0 : Nat) : Int))), (1, (0, a1)), (2, (0, a2)), (4, (0, a4))] [] h (none, r) := by
  unfold f_Mo_tokenize_190 at hf
  refine k_aload_n (pc := 190) rfl z_m0 d_Mo_tokenize_190 ?_
  refine k_iload_n (pc := 191) rfl z_m1 d_Mo_tokenize_191 ?_
  refine k_iload_n (pc := 192) rfl z_m2 d_Mo_tokenize_192 ?_
  refine k_aload_n (pc := 193) rfl z_m0 d_Mo_tokenize_193 ?_
  obtain ⟨v3, e_v3, hf⟩ := z_bd hf
  refine k_getR (pc := 194) d_Mo_tokenize_194 fd_Mo_77 rfl e_v3 ?_
  refine k_iload_n (pc := 197) rfl z_m1 d_Mo_tokenize_197 ?_
  obtain ⟨v4, e_v4, hf⟩ := z_bd hf
  refine k_iald (pc := 198) d_Mo_tokenize_198 e_v4 ?_
  refine k_iconst (pc := 199) (zi_lit rfl) d_Mo_tokenize_199 ?_
  obtain ⟨n5, e_n5, hf⟩ := z_bd hf
  obtain ⟨h6, e_h6, hf⟩ := z_bd hf
  refine k_callVv (pc := 200) (as := [(0, a1), (0, a2), (0, v4), (0, 0)]) (rest := []) d_Mo_tokenize_200 cw_Mo_tokenize_235 rfl (Nat.le_of_ble_eq_true rfl) (z_ck_of e_n5) (t_Mo_cutOff e_h6) ?_
  refine k_iconst (pc := 203) (zi_lit rfl) d_Mo_tokenize_203 ?_
  refine k_istore_n (pc := 204) (L' := [(3, (0, 0)), (0, (2, ((a0 : Nat) : Int))), (1, (0, a1)), (2, (0, a2)), (4, (0, a4))]) rfl d_Mo_tokenize_204 (Nat.le_of_ble_eq_true rfl) rfl ?_
  refine k_goto (pc := 205) (tgt := 301) d_Mo_tokenize_205 rfl ?_
  refine k_sub [1, 2, 3, 0, 4] rfl ?_
  exact b_Mo_tokenize_301 c36 k36 a0 a1 a2 0 a4 h6 _ hf
theorem b_Mo_tokenize_295 (c36 : Nat → Int → Int → Int → Int → zH → Option (zH)) (k36 : ∀ (x0 : Nat) (x1 : Int) (x2 : Int) (x3 : Int) (x4 : Int) (g : zH) (r : zH), c36 x0 x1 x2 x3 x4 g = some r → zK m_Mo_tokenize 36 [(0, (2, ((x0 : Nat) : Int))), (1, (0, x1)), (2, (0, x2)), (3, (0, x3)), (4, (0, x4))] [] g (none, r)) (a0 : Nat) (a1 : Int) (a3 : Int) (a4 : Int) (s0 : Nat) (s1 : Int) (s2 : Int) (h : zH) (r : zH) (hf : f_Mo_tokenize_295 c36 a0 a1 a3 a4 s0 s1 s2 h = some r) : zK m_Mo_tokenize 295 [(0, (2, ((a0 : Nat) : Int))), (1, (0, a1)), (3, (0, a3)), (4, (0, a4))] [(0, s2), (0, s1), (2, ((s0 : Nat) : Int))] h (none, r) := by
  unfold f_Mo_tokenize_295 at hf
  obtain ⟨h7, e_h7, hf⟩ := z_bd hf
  refine k_iast (pc := 295) d_Mo_tokenize_295 e_h7 ?_
  refine k_aload_n (pc := 296) rfl z_m0 d_Mo_tokenize_296 ?_
  obtain ⟨v8, e_v8, hf⟩ := z_bd hf
  refine k_getI (pc := 297) d_Mo_tokenize_297 fd_Mo_222 rfl e_v8 ?_
  refine k_istore_n (pc := 300) (L' := [(2, (0, v8)), (0, (2, ((a0 : Nat) : Int))), (1, (0, a1)), (3, (0, a3)), (4, (0, a4))]) rfl d_Mo_tokenize_300 (Nat.le_of_ble_eq_true rfl) rfl ?_
  refine k_sub [1, 2, 0, 3, 4] rfl ?_
  exact b_Mo_tokenize_301 c36 k36 a0 a1 v8 a3 a4 h7 _ hf
theorem b_Mo_tokenize_262 (c36 : Nat → Int → Int → Int → Int → zH → Option (zH)) (k36 : ∀ (x0 : Nat) (x1 : Int) (x2 : Int) (x3 : Int) (x4 : Int) (g : zH) (r : zH), c36 x0 x1 x2 x3 x4 g = some r → zK m_Mo_tokenize 36 [(0, (2, ((x0 : Nat) : Int))), (1, (0, x1)), (2, (0, x2)), (3, (0, x3)), (4, (0, x4))] [] g (none, r)) (a0 : Nat) (a1 : Int) (a3 : Int) (a4 : Int) (a6 : Int) (s0 : Nat) (s1 : Int) (s2 : Int) (s3 : Int) (s4 : Int) (h : zH) (r : zH) (hf : f_Mo_tokenize_262 c36 a0 a1 a3 a4 a6 s0 s1 s2 s3 s4 h = some r) : zK m_Mo_tokenize 262 [(0, (2, ((a0 : Nat) : Int))), (1, (0, a1)), (3, (0, a3)), (4, (0, a4)), (6, (0, a6))] [(0, s4), (0, s3), (0, s2), (0, s1), (2, ((s0 : Nat) : Int))] h (none, r) := by
  unfold f_Mo_tokenize_262 at hf
  obtain ⟨n9, e_n9, hf⟩ := z_bd hf
  obtain ⟨h10, e_h10, hf⟩ := z_bd hf
  refine k_callVv (pc := 262) (as := [(0, s1), (0, s2), (0, s3), (0, s4)]) (rest := []) d_Mo_tokenize_262 cw_Mo_tokenize_235 rfl (Nat.le_of_ble_eq_true rfl) (z_ck_of e_n9) (t_Mo_cutOff e_h10) ?_
  refine k_aload_n (pc := 265) rfl z_m0 d_Mo_tokenize_265 ?_
  obtain ⟨v11, e_v11, hf⟩ := z_bd hf
  refine k_getR (pc := 266) d_Mo_tokenize_266 fd_Mo_98 rfl e_v11 ?_
  refine k_bipush (pc := 269) (zi_lit rfl) (by decide) d_Mo_tokenize_269 ?_
  refine k_iload (pc := 271) z_m4 d_Mo_tokenize_271 ?_
  rcases z_it hf with ⟨w16, hf⟩ | ⟨w16, hf⟩
  · refine k_if_eq_t (pc := 273) (tgt := 288) w16 d_Mo_tokenize_273 rfl ?_
    refine k_aload_n (pc := 288) rfl z_m0 d_Mo_tokenize_288 ?_
    obtain ⟨v12, e_v12, hf⟩ := z_bd hf
    refine k_getR (pc := 289) d_Mo_tokenize_289 fd_Mo_98 rfl e_v12 ?_
    refine k_bipush (pc := 292) (zi_lit rfl) (by decide) d_Mo_tokenize_292 ?_
    obtain ⟨v13, e_v13, hf⟩ := z_bd hf
    refine k_iald (pc := 294) d_Mo_tokenize_294 e_v13 ?_
    refine k_sub [0, 1, 2, 3] rfl ?_
    exact b_Mo_tokenize_295 c36 k36 a0 a1 a3 a4 v11 6 v13 h10 _ hf
  · refine k_if_eq_f (pc := 273) (tgt := 288) w16 d_Mo_tokenize_273 rfl ?_
    refine k_aload_n (pc := 276) rfl z_m0 d_Mo_tokenize_276 ?_
    obtain ⟨v14, e_v14, hf⟩ := z_bd hf
    refine k_getR (pc := 277) d_Mo_tokenize_277 fd_Mo_98 rfl e_v14 ?_
    refine k_bipush (pc := 280) (zi_lit rfl) (by decide) d_Mo_tokenize_280 ?_
    obtain ⟨v15, e_v15, hf⟩ := z_bd hf
    refine k_iald (pc := 282) d_Mo_tokenize_282 e_v15 ?_
    refine k_iconst (pc := 283) (zi_lit rfl) d_Mo_tokenize_283 ?_
    refine k_isub (pc := 284) d_Mo_tokenize_284 ?_
    refine k_goto (pc := 285) (tgt := 295) d_Mo_tokenize_285 rfl ?_
    refine k_sub [0, 1, 2, 3] rfl ?_
    exact b_Mo_tokenize_295 c36 k36 a0 a1 a3 a4 v11 6 (zw (v15 - 1)) h10 _ hf
theorem b_Mo_tokenize_251 (c36 : Nat → Int → Int → Int → Int → zH → Option (zH)) (k36 : ∀ (x0 : Nat) (x1 : Int) (x2 : Int) (x3 : Int) (x4 : Int) (g : zH) (r : zH), c36 x0 x1 x2 x3 x4 g = some r → zK m_Mo_tokenize 36 [(0, (2, ((x0 : Nat) : Int))), (1, (0, x1)), (2, (0, x2)), (3, (0, x3)), (4, (0, x4))] [] g (none, r)) (a0 : Nat) (a1 : Int) (a3 : Int) (a4 : Int) (a6 : Int) (s0 : Nat) (s1 : Int) (s2 : Int) (s3 : Int) (h : zH) (r : zH) (hf : f_Mo_tokenize_251 c36 a0 a1 a3 a4 a6 s0 s1 s2 s3 h = some r) : zK m_Mo_tokenize 251 [(0, (2, ((a0 : Nat) : Int))), (1, (0, a1)), (3, (0, a3)), (4, (0, a4)), (6, (0, a6))] [(0, s3), (0, s2), (0, s1), (2, ((s0 : Nat) : Int))] h (none, r) := by
  unfold f_Mo_tokenize_251 at hf
  refine k_iconst (pc := 251) (zi_lit rfl) d_Mo_tokenize_251 ?_
  refine k_goto (pc := 252) (tgt := 262) d_Mo_tokenize_252 rfl ?_
  exact b_Mo_tokenize_262 c36 k36 a0 a1 a3 a4 a6 s0 s1 s2 s3 0 h _ hf
theorem b_Mo_tokenize_231 (c36 : Nat → Int → Int → Int → Int → zH → Option (zH)) (k36 : ∀ (x0 : Nat) (x1 : Int) (x2 : Int) (x3 : Int) (x4 : Int) (g : zH) (r : zH), c36 x0 x1 x2 x3 x4 g = some r → zK m_Mo_tokenize 36 [(0, (2, ((x0 : Nat) : Int))), (1, (0, x1)), (2, (0, x2)), (3, (0, x3)), (4, (0, x4))] [] g (none, r)) (a0 : Nat) (a1 : Int) (a3 : Int) (a4 : Int) (a5 : Int) (a6 : Int) (a7 : Int) (h : zH) (r : zH) (hf : f_Mo_tokenize_231 c36 a0 a1 a3 a4 a5 a6 a7 h = some r) : zK m_Mo_tokenize 231 [(0, (2, ((a0 : Nat) : Int))), (1, (0, a1)), (3, (0, a3)), (4, (0, a4)), (5, (0, a5)), (6, (0, a6)), (7, (0, a7))] [] h (none, r) := by
  unfold f_Mo_tokenize_231 at hf
  refine k_aload_n (pc := 231) rfl z_m0 d_Mo_tokenize_231 ?_
  refine k_iload_n (pc := 232) rfl z_m1 d_Mo_tokenize_232 ?_
  refine k_aload_n (pc := 233) rfl z_m0 d_Mo_tokenize_233 ?_
  obtain ⟨v17, e_v17, hf⟩ := z_bd hf
  refine k_getI (pc := 234) d_Mo_tokenize_234 fd_Mo_219 rfl e_v17 ?_
  refine k_aload_n (pc := 237) rfl z_m0 d_Mo_tokenize_237 ?_
  obtain ⟨v18, e_v18, hf⟩ := z_bd hf
  refine k_getI (pc := 238) d_Mo_tokenize_238 fd_Mo_222 rfl e_v18 ?_
  refine k_iload (pc := 241) z_m5 d_Mo_tokenize_241 ?_
  rcases z_it hf with ⟨w22, hf⟩ | ⟨w22, hf⟩
  · refine k_if_ne_f (pc := 243) (tgt := 251) w22 d_Mo_tokenize_243 rfl ?_
    refine k_iload (pc := 246) z_m6 d_Mo_tokenize_246 ?_
    rcases z_it hf with ⟨w21, hf⟩ | ⟨w21, hf⟩
    · refine k_if_eq_t (pc := 248) (tgt := 255) w21 d_Mo_tokenize_248 rfl ?_
      refine k_aload_n (pc := 255) rfl z_m0 d_Mo_tokenize_255 ?_
      obtain ⟨v19, e_v19, hf⟩ := z_bd hf
      refine k_getR (pc := 256) d_Mo_tokenize_256 fd_Mo_20 rfl e_v19 ?_
      refine k_iload (pc := 259) z_m4 d_Mo_tokenize_259 ?_
      obtain ⟨v20, e_v20, hf⟩ := z_bd hf
      refine k_iald (pc := 261) d_Mo_tokenize_261 e_v20 ?_
      refine k_sub [0, 1, 2, 3, 5] rfl ?_
      exact b_Mo_tokenize_262 c36 k36 a0 a1 a3 a4 a6 a0 a1 v17 v18 v20 h _ hf
    · refine k_if_eq_f (pc := 248) (tgt := 255) w21 d_Mo_tokenize_248 rfl ?_
      refine k_sub [0, 1, 2, 3, 5] rfl ?_
      exact b_Mo_tokenize_251 c36 k36 a0 a1 a3 a4 a6 a0 a1 v17 v18 h _ hf
  · refine k_if_ne_t (pc := 243) (tgt := 251) w22 d_Mo_tokenize_243 rfl ?_
    refine k_sub [0, 1, 2, 3, 5] rfl ?_
    exact b_Mo_tokenize_251 c36 k36 a0 a1 a3 a4 a6 a0 a1 v17 v18 h _ hf
theorem b_Mo_tokenize_208 (c36 : Nat → Int → Int → Int → Int → zH → Option (zH)) (k36 : ∀ (x0 : Nat) (x1 : Int) (x2 : Int) (x3 : Int) (x4 : Int) (g : zH) (r : zH), c36 x0 x1 x2 x3 x4 g = some r → zK m_Mo_tokenize 36 [(0, (2, ((x0 : Nat) : Int))), (1, (0, x1)), (2, (0, x2)), (3, (0, x3)), (4, (0, x4))] [] g (none, r)) (a0 : Nat) (a1 : Int) (a2 : Int) (a3 : Int) (a4 : Int) (a5 : Int) (a6 : Int) (a7 : Int) (h : zH) (r : zH) (hf : f_Mo_tokenize_208 c36 a0 a1 a2 a3 a4 a5 a6 a7 h = some r) : zK m_Mo_tokenize 208 [(0, (2, ((a0 : Nat) : Int))), (1, (0, a1)), (2, (0, a2)), (3, (0, a3)), (4, (0, a4)), (5, (0, a5)), (6, (0, a6)), (7, (0, a7))] [] h (none, r) := by
  unfold f_Mo_tokenize_208 at hf
  refine k_aload_n (pc := 208) rfl z_m0 d_Mo_tokenize_208 ?_
  refine k_iload_n (pc := 209) rfl z_m1 d_Mo_tokenize_209 ?_
  refine k_iload_n (pc := 210) rfl z_m2 d_Mo_tokenize_210 ?_
  refine k_aload_n (pc := 211) rfl z_m0 d_Mo_tokenize_211 ?_
  obtain ⟨v23, e_v23, hf⟩ := z_bd hf
  refine k_getI (pc := 212) d_Mo_tokenize_212 fd_Mo_219 rfl e_v23 ?_
  refine k_iconst (pc := 215) (zi_lit rfl) d_Mo_tokenize_215 ?_
  obtain ⟨n24, e_n24, hf⟩ := z_bd hf
  obtain ⟨h25, e_h25, hf⟩ := z_bd hf
  refine k_callVv (pc := 216) (as := [(0, a1), (0, a2), (0, v23), (0, 0)]) (rest := []) d_Mo_tokenize_216 cw_Mo_tokenize_235 rfl (Nat.le_of_ble_eq_true rfl) (z_ck_of e_n24) (t_Mo_cutOff e_h25) ?_
  refine k_iload (pc := 219) z_m7 d_Mo_tokenize_219 ?_
  rcases z_it hf with ⟨w28, hf⟩ | ⟨w28, hf⟩
  · refine k_if_eq_t (pc := 221) (tgt := 231) w28 d_Mo_tokenize_221 rfl ?_
    refine k_sub [0, 1, 3, 4, 5, 6, 7] rfl ?_
    exact b_Mo_tokenize_231 c36 k36 a0 a1 a3 a4 a5 a6 a7 h25 _ hf
  · refine k_if_eq_f (pc := 221) (tgt := 231) w28 d_Mo_tokenize_221 rfl ?_
    refine k_aload_n (pc := 224) rfl z_m0 d_Mo_tokenize_224 ?_
    refine k_iload_n (pc := 225) rfl z_m1 d_Mo_tokenize_225 ?_
    refine k_iload (pc := 226) z_m5 d_Mo_tokenize_226 ?_
    obtain ⟨n26, e_n26, hf⟩ := z_bd hf
    obtain ⟨h27, e_h27, hf⟩ := z_bd hf
    refine k_callVv (pc := 228) (as := [(0, a1), (0, a5)]) (rest := []) d_Mo_tokenize_228 cw_Mo_tokenize_239 rfl (Nat.le_of_ble_eq_true rfl) (z_ck_of e_n26) (t_Mo_openRange e_h27) ?_
    refine k_sub [0, 1, 3, 4, 5, 6, 7] rfl ?_
    exact b_Mo_tokenize_231 c36 k36 a0 a1 a3 a4 a5 a6 a7 h27 _ hf
theorem b_Mo_tokenize_174 (c36 : Nat → Int → Int → Int → Int → zH → Option (zH)) (k36 : ∀ (x0 : Nat) (x1 : Int) (x2 : Int) (x3 : Int) (x4 : Int) (g : zH) (r : zH), c36 x0 x1 x2 x3 x4 g = some r → zK m_Mo_tokenize 36 [(0, (2, ((x0 : Nat) : Int))), (1, (0, x1)), (2, (0, x2)), (3, (0, x3)), (4, (0, x4))] [] g (none, r)) (a0 : Nat) (a1 : Int) (a2 : Int) (a3 : Int) (a4 : Int) (a5 : Int) (a6 : Int) (a7 : Int) (h : zH) (r : zH) (hf : f_Mo_tokenize_174 c36 a0 a1 a2 a3 a4 a5 a6 a7 h = some r) : zK m_Mo_tokenize 174 [(0, (2, ((a0 : Nat) : Int))), (1, (0, a1)), (2, (0, a2)), (3, (0, a3)), (4, (0, a4)), (5, (0, a5)), (6, (0, a6)), (7, (0, a7))] [] h (none, r) := by
  unfold f_Mo_tokenize_174 at hf
  refine k_iload (pc := 174) z_m7 d_Mo_tokenize_174 ?_
  rcases z_it hf with ⟨w32, hf⟩ | ⟨w32, hf⟩
  · refine k_if_eq_t (pc := 176) (tgt := 208) w32 d_Mo_tokenize_176 rfl ?_
    exact b_Mo_tokenize_208 c36 k36 a0 a1 a2 a3 a4 a5 a6 a7 h _ hf
  · refine k_if_eq_f (pc := 176) (tgt := 208) w32 d_Mo_tokenize_176 rfl ?_
    refine k_aload_n (pc := 179) rfl z_m0 d_Mo_tokenize_179 ?_
    obtain ⟨v29, e_v29, hf⟩ := z_bd hf
    refine k_getR (pc := 180) d_Mo_tokenize_180 fd_Mo_98 rfl e_v29 ?_
    refine k_bipush (pc := 183) (zi_lit rfl) (by decide) d_Mo_tokenize_183 ?_
    obtain ⟨v30, e_v30, hf⟩ := z_bd hf
    refine k_iald (pc := 185) d_Mo_tokenize_185 e_v30 ?_
    refine k_iconst (pc := 186) (zi_lit rfl) d_Mo_tokenize_186 ?_
    rcases z_it hf with ⟨w31, hf⟩ | ⟨w31, hf⟩
    · refine k_ic_ne_f (pc := 187) (tgt := 208) w31 d_Mo_tokenize_187 rfl ?_
      refine k_sub [0, 1, 2, 4] rfl ?_
      exact b_Mo_tokenize_190 c36 k36 a0 a1 a2 a4 h _ hf
    · refine k_ic_ne_t (pc := 187) (tgt := 208) w31 d_Mo_tokenize_187 rfl ?_
      exact b_Mo_tokenize_208 c36 k36 a0 a1 a2 a3 a4 a5 a6 a7 h _ hf
theorem b_Mo_tokenize_152 (c36 : Nat → Int → Int → Int → Int → zH → Option (zH)) (k36 : ∀ (x0 : Nat) (x1 : Int) (x2 : Int) (x3 : Int) (x4 : Int) (g : zH) (r : zH), c36 x0 x1 x2 x3 x4 g = some r → zK m_Mo_tokenize 36 [(0, (2, ((x0 : Nat) : Int))), (1, (0, x1)), (2, (0, x2)), (3, (0, x3)), (4, (0, x4))] [] g (none, r)) (a0 : Nat) (a1 : Int) (a2 : Int) (a3 : Int) (a4 : Int) (a5 : Int) (a6 : Int) (s0 : Int) (h : zH) (r : zH) (hf : f_Mo_tokenize_152 c36 a0 a1 a2 a3 a4 a5 a6 s0 h = some r) : zK m_Mo_tokenize 152 [(0, (2, ((a0 : Nat) : Int))), (1, (0, a1)), (2, (0, a2)), (3, (0, a3)), (4, (0, a4)), (5, (0, a5)), (6, (0, a6))] [(0, s0)] h (none, r) := by
  unfold f_Mo_tokenize_152 at hf
  refine k_istore (pc := 152) (L' := [(7, (0, s0)), (0, (2, ((a0 : Nat) : Int))), (1, (0, a1)), (2, (0, a2)), (3, (0, a3)), (4, (0, a4)), (5, (0, a5)), (6, (0, a6))]) d_Mo_tokenize_152 (Nat.le_of_ble_eq_true rfl) rfl ?_
  refine k_aload_n (pc := 154) rfl z_m1 d_Mo_tokenize_154 ?_
  obtain ⟨v33, e_v33, hf⟩ := z_bd hf
  refine k_getI (pc := 155) d_Mo_tokenize_155 fd_Mo_213 rfl e_v33 ?_
  rcases z_it hf with ⟨w37, hf⟩ | ⟨w37, hf⟩
  · refine k_if_lt_t (pc := 158) (tgt := 190) w37 d_Mo_tokenize_158 rfl ?_
    refine k_sub [1, 2, 3, 5] rfl ?_
    exact b_Mo_tokenize_190 c36 k36 a0 a1 a2 a4 h _ hf
  · refine k_if_lt_f (pc := 158) (tgt := 190) w37 d_Mo_tokenize_158 rfl ?_
    refine k_aload_n (pc := 161) rfl z_m1 d_Mo_tokenize_161 ?_
    obtain ⟨v34, e_v34, hf⟩ := z_bd hf
    refine k_getI (pc := 162) d_Mo_tokenize_162 fd_Mo_222 rfl e_v34 ?_
    refine k_iload_n (pc := 165) rfl z_m3 d_Mo_tokenize_165 ?_
    rcases z_it hf with ⟨w36, hf⟩ | ⟨w36, hf⟩
    · refine k_ic_ne_f (pc := 166) (tgt := 174) w36 d_Mo_tokenize_166 rfl ?_
      refine k_iload (pc := 169) z_m7 d_Mo_tokenize_169 ?_
      rcases z_it hf with ⟨w35, hf⟩ | ⟨w35, hf⟩
      · refine k_if_eq_t (pc := 171) (tgt := 190) w35 d_Mo_tokenize_171 rfl ?_
        refine k_sub [1, 2, 3, 5] rfl ?_
        exact b_Mo_tokenize_190 c36 k36 a0 a1 a2 a4 h _ hf
      · refine k_if_eq_f (pc := 171) (tgt := 190) w35 d_Mo_tokenize_171 rfl ?_
        refine k_sub [1, 2, 3, 4, 5, 6, 7, 0] rfl ?_
        exact b_Mo_tokenize_174 c36 k36 a0 a1 a2 a3 a4 a5 a6 s0 h _ hf
    · refine k_ic_ne_t (pc := 166) (tgt := 174) w36 d_Mo_tokenize_166 rfl ?_
      refine k_sub [1, 2, 3, 4, 5, 6, 7, 0] rfl ?_
      exact b_Mo_tokenize_174 c36 k36 a0 a1 a2 a3 a4 a5 a6 s0 h _ hf
theorem b_Mo_tokenize_151 (c36 : Nat → Int → Int → Int → Int → zH → Option (zH)) (k36 : ∀ (x0 : Nat) (x1 : Int) (x2 : Int) (x3 : Int) (x4 : Int) (g : zH) (r : zH), c36 x0 x1 x2 x3 x4 g = some r → zK m_Mo_tokenize 36 [(0, (2, ((x0 : Nat) : Int))), (1, (0, x1)), (2, (0, x2)), (3, (0, x3)), (4, (0, x4))] [] g (none, r)) (a0 : Nat) (a1 : Int) (a2 : Int) (a3 : Int) (a4 : Int) (a5 : Int) (a6 : Int) (h : zH) (r : zH) (hf : f_Mo_tokenize_151 c36 a0 a1 a2 a3 a4 a5 a6 h = some r) : zK m_Mo_tokenize 151 [(0, (2, ((a0 : Nat) : Int))), (1, (0, a1)), (2, (0, a2)), (3, (0, a3)), (4, (0, a4)), (5, (0, a5)), (6, (0, a6))] [] h (none, r) := by
  unfold f_Mo_tokenize_151 at hf
  refine k_iconst (pc := 151) (zi_lit rfl) d_Mo_tokenize_151 ?_
  exact b_Mo_tokenize_152 c36 k36 a0 a1 a2 a3 a4 a5 a6 0 h _ hf
theorem b_Mo_tokenize_123 (c36 : Nat → Int → Int → Int → Int → zH → Option (zH)) (k36 : ∀ (x0 : Nat) (x1 : Int) (x2 : Int) (x3 : Int) (x4 : Int) (g : zH) (r : zH), c36 x0 x1 x2 x3 x4 g = some r → zK m_Mo_tokenize 36 [(0, (2, ((x0 : Nat) : Int))), (1, (0, x1)), (2, (0, x2)), (3, (0, x3)), (4, (0, x4))] [] g (none, r)) (a0 : Nat) (a1 : Int) (a2 : Int) (a3 : Int) (a4 : Int) (a5 : Int) (s0 : Int) (h : zH) (r : zH) (hf : f_Mo_tokenize_123 c36 a0 a1 a2 a3 a4 a5 s0 h = some r) : zK m_Mo_tokenize 123 [(0, (2, ((a0 : Nat) : Int))), (1, (0, a1)), (2, (0, a2)), (3, (0, a3)), (4, (0, a4)), (5, (0, a5))] [(0, s0)] h (none, r) := by
  unfold f_Mo_tokenize_123 at hf
  refine k_istore (pc := 123) (L' := [(6, (0, s0)), (0, (2, ((a0 : Nat) : Int))), (1, (0, a1)), (2, (0, a2)), (3, (0, a3)), (4, (0, a4)), (5, (0, a5))]) d_Mo_tokenize_123 (Nat.le_of_ble_eq_true rfl) rfl ?_
  refine k_aload_n (pc := 125) rfl z_m1 d_Mo_tokenize_125 ?_
  obtain ⟨v38, e_v38, hf⟩ := z_bd hf
  refine k_getI (pc := 126) d_Mo_tokenize_126 fd_Mo_213 rfl e_v38 ?_
  rcases z_it hf with ⟨w43, hf⟩ | ⟨w43, hf⟩
  · refine k_if_lt_t (pc := 129) (tgt := 151) w43 d_Mo_tokenize_129 rfl ?_
    refine k_sub [1, 2, 3, 4, 5, 6, 0] rfl ?_
    exact b_Mo_tokenize_151 c36 k36 a0 a1 a2 a3 a4 a5 s0 h _ hf
  · refine k_if_lt_f (pc := 129) (tgt := 151) w43 d_Mo_tokenize_129 rfl ?_
    refine k_iload (pc := 132) z_m0 d_Mo_tokenize_132 ?_
    rcases z_it hf with ⟨w42, hf⟩ | ⟨w42, hf⟩
    · refine k_if_ne_f (pc := 134) (tgt := 151) w42 d_Mo_tokenize_134 rfl ?_
      refine k_aload_n (pc := 137) rfl z_m1 d_Mo_tokenize_137 ?_
      obtain ⟨v39, e_v39, hf⟩ := z_bd hf
      refine k_getR (pc := 138) d_Mo_tokenize_138 fd_Mo_13 rfl e_v39 ?_
      refine k_iload (pc := 141) z_m6 d_Mo_tokenize_141 ?_
      obtain ⟨v40, e_v40, hf⟩ := z_bd hf
      refine k_zald (pc := 143) d_Mo_tokenize_143 e_v40 ?_
      rcases z_it hf with ⟨w41, hf⟩ | ⟨w41, hf⟩
      · refine k_if_eq_t (pc := 144) (tgt := 151) w41 d_Mo_tokenize_144 rfl ?_
        refine k_sub [1, 2, 3, 4, 5, 6, 0] rfl ?_
        exact b_Mo_tokenize_151 c36 k36 a0 a1 a2 a3 a4 a5 s0 h _ hf
      · refine k_if_eq_f (pc := 144) (tgt := 151) w41 d_Mo_tokenize_144 rfl ?_
        refine k_iconst (pc := 147) (zi_lit rfl) d_Mo_tokenize_147 ?_
        refine k_goto (pc := 148) (tgt := 152) d_Mo_tokenize_148 rfl ?_
        refine k_sub [1, 2, 3, 4, 5, 6, 0] rfl ?_
        exact b_Mo_tokenize_152 c36 k36 a0 a1 a2 a3 a4 a5 s0 1 h _ hf
    · refine k_if_ne_t (pc := 134) (tgt := 151) w42 d_Mo_tokenize_134 rfl ?_
      refine k_sub [1, 2, 3, 4, 5, 6, 0] rfl ?_
      exact b_Mo_tokenize_151 c36 k36 a0 a1 a2 a3 a4 a5 s0 h _ hf
theorem b_Mo_tokenize_122 (c36 : Nat → Int → Int → Int → Int → zH → Option (zH)) (k36 : ∀ (x0 : Nat) (x1 : Int) (x2 : Int) (x3 : Int) (x4 : Int) (g : zH) (r : zH), c36 x0 x1 x2 x3 x4 g = some r → zK m_Mo_tokenize 36 [(0, (2, ((x0 : Nat) : Int))), (1, (0, x1)), (2, (0, x2)), (3, (0, x3)), (4, (0, x4))] [] g (none, r)) (a0 : Nat) (a1 : Int) (a2 : Int) (a3 : Int) (a4 : Int) (a5 : Int) (h : zH) (r : zH) (hf : f_Mo_tokenize_122 c36 a0 a1 a2 a3 a4 a5 h = some r) : zK m_Mo_tokenize 122 [(0, (2, ((a0 : Nat) : Int))), (1, (0, a1)), (2, (0, a2)), (3, (0, a3)), (4, (0, a4)), (5, (0, a5))] [] h (none, r) := by
  unfold f_Mo_tokenize_122 at hf
  refine k_iconst (pc := 122) (zi_lit rfl) d_Mo_tokenize_122 ?_
  exact b_Mo_tokenize_123 c36 k36 a0 a1 a2 a3 a4 a5 0 h _ hf
theorem b_Mo_tokenize_36 : ∀ (n : Nat) (a0 : Nat) (a1 : Int) (a2 : Int) (a3 : Int) (a4 : Int) (h : zH) (r : zH), f_Mo_tokenize_36 n a0 a1 a2 a3 a4 h = some r → zK m_Mo_tokenize 36 [(0, (2, ((a0 : Nat) : Int))), (1, (0, a1)), (2, (0, a2)), (3, (0, a3)), (4, (0, a4))] [] h (none, r) := by
  intro n
  induction n with
  | zero =>
    intro a0 a1 a2 a3 a4 h r hf
    cases hf
  | succ n ih =>
    intro a0 a1 a2 a3 a4 h r hf
    unfold f_Mo_tokenize_36 at hf
    refine k_iload (pc := 36) z_m4 d_Mo_tokenize_36 ?_
    refine k_bipush (pc := 38) (zi_lit rfl) (by decide) d_Mo_tokenize_38 ?_
    rcases z_it hf with ⟨w63, hf⟩ | ⟨w63, hf⟩
    · refine k_ic_ge_t (pc := 40) (tgt := 307) w63 d_Mo_tokenize_40 rfl ?_
      refine k_sub [0, 1] rfl ?_
      exact b_Mo_tokenize_307 a0 a1 h _ hf
    · refine k_ic_ge_f (pc := 40) (tgt := 307) w63 d_Mo_tokenize_40 rfl ?_
      refine k_iload_n (pc := 43) rfl z_m3 d_Mo_tokenize_43 ?_
      rcases z_it hf with ⟨w62, hf⟩ | ⟨w62, hf⟩
      · refine k_if_eq_t (pc := 44) (tgt := 307) w62 d_Mo_tokenize_44 rfl ?_
        refine k_sub [0, 1] rfl ?_
        exact b_Mo_tokenize_307 a0 a1 h _ hf
      · refine k_if_eq_f (pc := 44) (tgt := 307) w62 d_Mo_tokenize_44 rfl ?_
        refine k_aload_n (pc := 47) rfl z_m0 d_Mo_tokenize_47 ?_
        refine k_iload_n (pc := 48) rfl z_m1 d_Mo_tokenize_48 ?_
        refine k_iload_n (pc := 49) rfl z_m2 d_Mo_tokenize_49 ?_
        obtain ⟨n44, e_n44, hf⟩ := z_bd hf
        obtain ⟨q45, e_q45, hf⟩ := z_bd hf
        refine k_callVi (pc := 50) (as := [(0, a1), (0, a2)]) (rest := []) d_Mo_tokenize_50 cw_Mo_tokenize_232 rfl (Nat.le_of_ble_eq_true rfl) (z_ck_of e_n44) (t_Mo_findBest e_q45) ?_
        rcases z_it hf with ⟨w61, hf⟩ | ⟨w61, hf⟩
        · refine k_if_ne_f (pc := 53) (tgt := 93) w61 d_Mo_tokenize_53 rfl ?_
          refine k_aload_n (pc := 56) rfl z_m0 d_Mo_tokenize_56 ?_
          obtain ⟨v51, e_v51, hf⟩ := z_bd hf
          refine k_getR (pc := 57) d_Mo_tokenize_57 fd_Mo_83 rfl e_v51 ?_
          refine k_iload_n (pc := 60) rfl z_m1 d_Mo_tokenize_60 ?_
          refine k_iconst (pc := 61) (zi_lit rfl) d_Mo_tokenize_61 ?_
          obtain ⟨h52, e_h52, hf⟩ := z_bd hf
          refine k_zast (pc := 62) d_Mo_tokenize_62 e_h52 ?_
          refine k_aload_n (pc := 63) rfl z_m0 d_Mo_tokenize_63 ?_
          obtain ⟨v53, e_v53, hf⟩ := z_bd hf
          refine k_getR (pc := 64) d_Mo_tokenize_64 fd_Mo_86 rfl e_v53 ?_
          refine k_iload_n (pc := 67) rfl z_m1 d_Mo_tokenize_67 ?_
          refine k_iconst (pc := 68) (zi_lit rfl) d_Mo_tokenize_68 ?_
          obtain ⟨h54, e_h54, hf⟩ := z_bd hf
          refine k_iast (pc := 69) d_Mo_tokenize_69 e_h54 ?_
          refine k_aload_n (pc := 70) rfl z_m0 d_Mo_tokenize_70 ?_
          refine k_iload_n (pc := 71) rfl z_m1 d_Mo_tokenize_71 ?_
          obtain ⟨n55, e_n55, hf⟩ := z_bd hf
          obtain ⟨h56, e_h56, hf⟩ := z_bd hf
          refine k_callVv (pc := 72) (as := [(0, a1)]) (rest := []) d_Mo_tokenize_72 cw_Mo_tokenize_228 rfl (Nat.le_of_ble_eq_true rfl) (z_ck_of e_n55) (t_Mo_begin e_h56) ?_
          refine k_aload_n (pc := 75) rfl z_m0 d_Mo_tokenize_75 ?_
          refine k_iload_n (pc := 76) rfl z_m1 d_Mo_tokenize_76 ?_
          refine k_iconst (pc := 77) (zi_lit rfl) d_Mo_tokenize_77 ?_
          refine k_aload_n (pc := 78) rfl z_m0 d_Mo_tokenize_78 ?_
          obtain ⟨v57, e_v57, hf⟩ := z_bd hf
          refine k_getR (pc := 79) d_Mo_tokenize_79 fd_Mo_77 rfl e_v57 ?_
          refine k_iload_n (pc := 82) rfl z_m1 d_Mo_tokenize_82 ?_
          obtain ⟨v58, e_v58, hf⟩ := z_bd hf
          refine k_iald (pc := 83) d_Mo_tokenize_83 e_v58 ?_
          refine k_iconst (pc := 84) (zi_lit rfl) d_Mo_tokenize_84 ?_
          obtain ⟨n59, e_n59, hf⟩ := z_bd hf
          obtain ⟨h60, e_h60, hf⟩ := z_bd hf
          refine k_callVv (pc := 85) (as := [(0, a1), (0, 0), (0, v58), (0, 0)]) (rest := []) d_Mo_tokenize_85 cw_Mo_tokenize_235 rfl (Nat.le_of_ble_eq_true rfl) (z_ck_of e_n59) (t_Mo_cutOff e_h60) ?_
          refine k_iconst (pc := 88) (zi_lit rfl) d_Mo_tokenize_88 ?_
          refine k_istore_n (pc := 89) (L' := [(3, (0, 0)), (0, (2, ((a0 : Nat) : Int))), (1, (0, a1)), (2, (0, a2)), (4, (0, a4))]) rfl d_Mo_tokenize_89 (Nat.le_of_ble_eq_true rfl) rfl ?_
          refine k_goto (pc := 90) (tgt := 301) d_Mo_tokenize_90 rfl ?_
          refine k_sub [1, 2, 3, 0, 4] rfl ?_
          exact b_Mo_tokenize_301 (f_Mo_tokenize_36 n) ih a0 a1 a2 0 a4 h60 _ hf
        · refine k_if_ne_t (pc := 53) (tgt := 93) w61 d_Mo_tokenize_53 rfl ?_
          refine k_aload_n (pc := 93) rfl z_m0 d_Mo_tokenize_93 ?_
          obtain ⟨v46, e_v46, hf⟩ := z_bd hf
          refine k_getI (pc := 94) d_Mo_tokenize_94 fd_Mo_213 rfl e_v46 ?_
          refine k_iconst (pc := 97) (zi_lit rfl) d_Mo_tokenize_97 ?_
          refine k_idiv (pc := 98) (by decide) d_Mo_tokenize_98 ?_
          refine k_istore (pc := 99) (L' := [(5, (0, zw (v46.tdiv 2))), (0, (2, ((a0 : Nat) : Int))), (1, (0, a1)), (2, (0, a2)), (3, (0, a3)), (4, (0, a4))]) d_Mo_tokenize_99 (Nat.le_of_ble_eq_true rfl) rfl ?_
          refine k_aload_n (pc := 101) rfl z_m1 d_Mo_tokenize_101 ?_
          obtain ⟨v47, e_v47, hf⟩ := z_bd hf
          refine k_getI (pc := 102) d_Mo_tokenize_102 fd_Mo_213 rfl e_v47 ?_
          rcases z_it hf with ⟨w50, hf⟩ | ⟨w50, hf⟩
          · refine k_if_lt_t (pc := 105) (tgt := 122) w50 d_Mo_tokenize_105 rfl ?_
            refine k_sub [1, 2, 3, 4, 5, 0] rfl ?_
            exact b_Mo_tokenize_122 (f_Mo_tokenize_36 n) ih a0 a1 a2 a3 a4 (zw (v46.tdiv 2)) q45.2 _ hf
          · refine k_if_lt_f (pc := 105) (tgt := 122) w50 d_Mo_tokenize_105 rfl ?_
            refine k_aload_n (pc := 108) rfl z_m1 d_Mo_tokenize_108 ?_
            obtain ⟨v48, e_v48, hf⟩ := z_bd hf
            refine k_getI (pc := 109) d_Mo_tokenize_109 fd_Mo_213 rfl e_v48 ?_
            refine k_iconst (pc := 112) (zi_lit rfl) d_Mo_tokenize_112 ?_
            refine k_irem (pc := 113) (by decide) d_Mo_tokenize_113 ?_
            refine k_iconst (pc := 114) (zi_lit rfl) d_Mo_tokenize_114 ?_
            rcases z_it hf with ⟨w49, hf⟩ | ⟨w49, hf⟩
            · refine k_ic_ne_f (pc := 115) (tgt := 122) w49 d_Mo_tokenize_115 rfl ?_
              refine k_iconst (pc := 118) (zi_lit rfl) d_Mo_tokenize_118 ?_
              refine k_goto (pc := 119) (tgt := 123) d_Mo_tokenize_119 rfl ?_
              refine k_sub [1, 2, 3, 4, 5, 0] rfl ?_
              exact b_Mo_tokenize_123 (f_Mo_tokenize_36 n) ih a0 a1 a2 a3 a4 (zw (v46.tdiv 2)) 1 q45.2 _ hf
            · refine k_ic_ne_t (pc := 115) (tgt := 122) w49 d_Mo_tokenize_115 rfl ?_
              refine k_sub [1, 2, 3, 4, 5, 0] rfl ?_
              exact b_Mo_tokenize_122 (f_Mo_tokenize_36 n) ih a0 a1 a2 a3 a4 (zw (v46.tdiv 2)) q45.2 _ hf
theorem b_Mo_tokenize_0 (a0 : Nat) (a1 : Int) (h : zH) (r : zH) (hf : f_Mo_tokenize a0 a1 h = some r) : zK m_Mo_tokenize 0 [(0, (2, ((a0 : Nat) : Int))), (1, (0, a1))] [] h (none, r) := by
  unfold f_Mo_tokenize at hf
  refine k_aload_n (pc := 0) rfl z_m0 d_Mo_tokenize_0 ?_
  refine k_dup (pc := 1) (Or.inr rfl) d_Mo_tokenize_1 ?_
  obtain ⟨v64, e_v64, hf⟩ := z_bd hf
  refine k_getI (pc := 2) d_Mo_tokenize_2 fd_Mo_225 rfl e_v64 ?_
  refine k_iconst (pc := 5) (zi_lit rfl) d_Mo_tokenize_5 ?_
  refine k_iadd (pc := 6) d_Mo_tokenize_6 ?_
  obtain ⟨h65, e_h65, hf⟩ := z_bd hf
  refine k_putI (pc := 7) d_Mo_tokenize_7 fd_Mo_225 (fun q => by cases q) rfl e_h65 ?_
  refine k_aload_n (pc := 10) rfl z_m0 d_Mo_tokenize_10 ?_
  obtain ⟨v66, e_v66, hf⟩ := z_bd hf
  refine k_getR (pc := 11) d_Mo_tokenize_11 fd_Mo_86 rfl e_v66 ?_
  refine k_iload_n (pc := 14) rfl z_m1 d_Mo_tokenize_14 ?_
  refine k_iconst (pc := 15) (zi_lit rfl) d_Mo_tokenize_15 ?_
  obtain ⟨h67, e_h67, hf⟩ := z_bd hf
  refine k_iast (pc := 16) d_Mo_tokenize_16 e_h67 ?_
  refine k_aload_n (pc := 17) rfl z_m0 d_Mo_tokenize_17 ?_
  obtain ⟨v68, e_v68, hf⟩ := z_bd hf
  refine k_getR (pc := 18) d_Mo_tokenize_18 fd_Mo_83 rfl e_v68 ?_
  refine k_iload_n (pc := 21) rfl z_m1 d_Mo_tokenize_21 ?_
  refine k_iconst (pc := 22) (zi_lit rfl) d_Mo_tokenize_22 ?_
  obtain ⟨h69, e_h69, hf⟩ := z_bd hf
  refine k_zast (pc := 23) d_Mo_tokenize_23 e_h69 ?_
  refine k_aload_n (pc := 24) rfl z_m0 d_Mo_tokenize_24 ?_
  refine k_iload_n (pc := 25) rfl z_m1 d_Mo_tokenize_25 ?_
  obtain ⟨n70, e_n70, hf⟩ := z_bd hf
  obtain ⟨h71, e_h71, hf⟩ := z_bd hf
  refine k_callVv (pc := 26) (as := [(0, a1)]) (rest := []) d_Mo_tokenize_26 cw_Mo_tokenize_228 rfl (Nat.le_of_ble_eq_true rfl) (z_ck_of e_n70) (t_Mo_begin e_h71) ?_
  refine k_iconst (pc := 29) (zi_lit rfl) d_Mo_tokenize_29 ?_
  refine k_istore_n (pc := 30) (L' := [(2, (0, 0)), (0, (2, ((a0 : Nat) : Int))), (1, (0, a1))]) rfl d_Mo_tokenize_30 (Nat.le_of_ble_eq_true rfl) rfl ?_
  refine k_iconst (pc := 31) (zi_lit rfl) d_Mo_tokenize_31 ?_
  refine k_istore_n (pc := 32) (L' := [(3, (0, 1)), (2, (0, 0)), (0, (2, ((a0 : Nat) : Int))), (1, (0, a1))]) rfl d_Mo_tokenize_32 (Nat.le_of_ble_eq_true rfl) rfl ?_
  refine k_iconst (pc := 33) (zi_lit rfl) d_Mo_tokenize_33 ?_
  refine k_istore (pc := 34) (L' := [(4, (0, 0)), (3, (0, 1)), (2, (0, 0)), (0, (2, ((a0 : Nat) : Int))), (1, (0, a1))]) d_Mo_tokenize_34 (Nat.le_of_ble_eq_true rfl) rfl ?_
  refine k_sub [3, 4, 2, 1, 0] rfl ?_
  exact b_Mo_tokenize_36 100000 a0 a1 0 1 0 h71 _ hf
theorem t_Mo_tokenize {a0 : Nat} {a1 : Int} {h : zH} {r : zH} (hf : f_Mo_tokenize a0 a1 h = some r) : zMt m_Mo_tokenize [(2, ((a0 : Nat) : Int)), (0, a1)] h (none, r) := zMt.of (by decide) (Nat.le_of_ble_eq_true rfl) (b_Mo_tokenize_0 a0 a1 h r hf)
theorem b_Mo_refresh_7 : ∀ (n : Nat) (a0 : Nat) (a2 : Int) (a3 : Int) (a4 : Int) (h : zH) (r : Int × zH), f_Mo_refresh_7 n a0 a2 a3 a4 h = some r → zK m_Mo_refresh 7 [(0, (2, ((a0 : Nat) : Int))), (2, (0, a2)), (3, (0, a3)), (4, (0, a4))] [] h (some (0, r.1), r.2) := by
  intro n
  induction n with
  | zero =>
    intro a0 a2 a3 a4 h r hf
    cases hf
  | succ n ih =>
    intro a0 a2 a3 a4 h r hf
    unfold f_Mo_refresh_7 at hf
    refine k_iload (pc := 7) z_m3 d_Mo_refresh_7 ?_
    refine k_aload_n (pc := 9) rfl z_m0 d_Mo_refresh_9 ?_
    obtain ⟨v1, e_v1, hf⟩ := z_bd hf
    refine k_getI (pc := 10) d_Mo_refresh_10 fd_Mo_242 rfl e_v1 ?_
    rcases z_it hf with ⟨w9, hf⟩ | ⟨w9, hf⟩
    · refine k_ic_ge_t (pc := 13) (tgt := 52) w9 d_Mo_refresh_13 rfl ?_
      refine k_iload_n (pc := 52) rfl z_m1 d_Mo_refresh_52 ?_
      cases hf
      exact k_iret (pc := 53) d_Mo_refresh_53 rfl
    · refine k_ic_ge_f (pc := 13) (tgt := 52) w9 d_Mo_refresh_13 rfl ?_
      refine k_iload_n (pc := 16) rfl z_m2 d_Mo_refresh_16 ?_
      rcases z_it hf with ⟨w8, hf⟩ | ⟨w8, hf⟩
      · refine k_if_ne_f (pc := 17) (tgt := 52) w8 d_Mo_refresh_17 rfl ?_
        refine k_aload_n (pc := 20) rfl z_m0 d_Mo_refresh_20 ?_
        refine k_iload (pc := 21) z_m3 d_Mo_refresh_21 ?_
        refine k_bipush (pc := 23) (zi_lit rfl) (by decide) d_Mo_refresh_23 ?_
        obtain ⟨n2, e_n2, hf⟩ := z_bd hf
        obtain ⟨h3, e_h3, hf⟩ := z_bd hf
        refine k_callVv (pc := 25) (as := [(0, a4), (0, 7)]) (rest := []) d_Mo_refresh_25 cw_Mo_refresh_200 rfl (Nat.le_of_ble_eq_true rfl) (z_ck_of e_n2) (t_Mo_copyState e_h3) ?_
        refine k_aload_n (pc := 28) rfl z_m0 d_Mo_refresh_28 ?_
        refine k_iload (pc := 29) z_m3 d_Mo_refresh_29 ?_
        obtain ⟨n4, e_n4, hf⟩ := z_bd hf
        obtain ⟨h5, e_h5, hf⟩ := z_bd hf
        refine k_callVv (pc := 31) (as := [(0, a4)]) (rest := []) d_Mo_refresh_31 cw_Mo_refresh_245 rfl (Nat.le_of_ble_eq_true rfl) (z_ck_of e_n4) (t_Mo_tokenize e_h5) ?_
        refine k_aload_n (pc := 34) rfl z_m0 d_Mo_refresh_34 ?_
        refine k_iload (pc := 35) z_m3 d_Mo_refresh_35 ?_
        refine k_bipush (pc := 37) (zi_lit rfl) (by decide) d_Mo_refresh_37 ?_
        obtain ⟨n6, e_n6, hf⟩ := z_bd hf
        obtain ⟨q7, e_q7, hf⟩ := z_bd hf
        refine k_callVi (pc := 39) (as := [(0, a4), (0, 7)]) (rest := []) d_Mo_refresh_39 cw_Mo_refresh_248 rfl (Nat.le_of_ble_eq_true rfl) (z_ck_of e_n6) (t_Mo_sameState e_q7) ?_
        refine k_istore_n (pc := 42) (L' := [(3, (0, q7.1)), (0, (2, ((a0 : Nat) : Int))), (2, (0, a2)), (4, (0, a4))]) rfl d_Mo_refresh_42 (Nat.le_of_ble_eq_true rfl) rfl ?_
        refine k_iinc (pc := 43) (L' := [(2, (0, zw (a2 + 1))), (3, (0, q7.1)), (0, (2, ((a0 : Nat) : Int))), (4, (0, a4))]) z_m2 d_Mo_refresh_43 (Nat.le_of_ble_eq_true rfl) rfl ?_
        refine k_iinc (pc := 46) (L' := [(4, (0, zw (a4 + 1))), (2, (0, zw (a2 + 1))), (3, (0, q7.1)), (0, (2, ((a0 : Nat) : Int)))]) z_m3 d_Mo_refresh_46 (Nat.le_of_ble_eq_true rfl) rfl ?_
        refine k_goto (pc := 49) (tgt := 7) d_Mo_refresh_49 rfl ?_
        refine k_sub [3, 1, 2, 0] rfl ?_
        exact ih a0 (zw (a2 + 1)) q7.1 (zw (a4 + 1)) q7.2 _ hf
      · refine k_if_ne_t (pc := 17) (tgt := 52) w8 d_Mo_refresh_17 rfl ?_
        refine k_iload_n (pc := 52) rfl z_m1 d_Mo_refresh_52 ?_
        cases hf
        exact k_iret (pc := 53) d_Mo_refresh_53 rfl
theorem b_Mo_refresh_0 (a0 : Nat) (a1 : Int) (h : zH) (r : Int × zH) (hf : f_Mo_refresh a0 a1 h = some r) : zK m_Mo_refresh 0 [(0, (2, ((a0 : Nat) : Int))), (1, (0, a1))] [] h (some (0, r.1), r.2) := by
  unfold f_Mo_refresh at hf
  refine k_iconst (pc := 0) (zi_lit rfl) d_Mo_refresh_0 ?_
  refine k_istore_n (pc := 1) (L' := [(2, (0, 0)), (0, (2, ((a0 : Nat) : Int))), (1, (0, a1))]) rfl d_Mo_refresh_1 (Nat.le_of_ble_eq_true rfl) rfl ?_
  refine k_iconst (pc := 2) (zi_lit rfl) d_Mo_refresh_2 ?_
  refine k_istore_n (pc := 3) (L' := [(3, (0, 0)), (2, (0, 0)), (0, (2, ((a0 : Nat) : Int))), (1, (0, a1))]) rfl d_Mo_refresh_3 (Nat.le_of_ble_eq_true rfl) rfl ?_
  refine k_iload_n (pc := 4) rfl z_m3 d_Mo_refresh_4 ?_
  refine k_istore (pc := 5) (L' := [(4, (0, a1)), (3, (0, 0)), (2, (0, 0)), (0, (2, ((a0 : Nat) : Int))), (1, (0, a1))]) d_Mo_refresh_5 (Nat.le_of_ble_eq_true rfl) rfl ?_
  refine k_sub [3, 2, 1, 0] rfl ?_
  exact b_Mo_refresh_7 100000 a0 0 0 a1 h _ hf
theorem t_Mo_refresh {a0 : Nat} {a1 : Int} {h : zH} {r : Int × zH} (hf : f_Mo_refresh a0 a1 h = some r) : zMt m_Mo_refresh [(2, ((a0 : Nat) : Int)), (0, a1)] h (some (0, r.1), r.2) := zMt.of (by decide) (Nat.le_of_ble_eq_true rfl) (b_Mo_refresh_0 a0 a1 h r hf)
theorem b_Mo_refreshAll_2 : ∀ (n : Nat) (a0 : Nat) (a1 : Int) (h : zH) (r : zH), f_Mo_refreshAll_2 n a0 a1 h = some r → zK m_Mo_refreshAll 2 [(0, (2, ((a0 : Nat) : Int))), (1, (0, a1))] [] h (none, r) := by
  intro n
  induction n with
  | zero =>
    intro a0 a1 h r hf
    cases hf
  | succ n ih =>
    intro a0 a1 h r hf
    unfold f_Mo_refreshAll_2 at hf
    refine k_iload_n (pc := 2) rfl z_m1 d_Mo_refreshAll_2 ?_
    refine k_aload_n (pc := 3) rfl z_m0 d_Mo_refreshAll_3 ?_
    obtain ⟨v1, e_v1, hf⟩ := z_bd hf
    refine k_getI (pc := 4) d_Mo_refreshAll_4 fd_Mo_242 rfl e_v1 ?_
    rcases z_it hf with ⟨w4, hf⟩ | ⟨w4, hf⟩
    · refine k_ic_ge_t (pc := 7) (tgt := 21) w4 d_Mo_refreshAll_7 rfl ?_
      cases hf
      exact k_ret (pc := 21) d_Mo_refreshAll_21 rfl
    · refine k_ic_ge_f (pc := 7) (tgt := 21) w4 d_Mo_refreshAll_7 rfl ?_
      refine k_aload_n (pc := 10) rfl z_m0 d_Mo_refreshAll_10 ?_
      refine k_iload_n (pc := 11) rfl z_m1 d_Mo_refreshAll_11 ?_
      obtain ⟨n2, e_n2, hf⟩ := z_bd hf
      obtain ⟨h3, e_h3, hf⟩ := z_bd hf
      refine k_callVv (pc := 12) (as := [(0, a1)]) (rest := []) d_Mo_refreshAll_12 cw_Mo_refreshAll_245 rfl (Nat.le_of_ble_eq_true rfl) (z_ck_of e_n2) (t_Mo_tokenize e_h3) ?_
      refine k_iinc (pc := 15) (L' := [(1, (0, zw (a1 + 1))), (0, (2, ((a0 : Nat) : Int)))]) z_m1 d_Mo_refreshAll_15 (Nat.le_of_ble_eq_true rfl) rfl ?_
      refine k_goto (pc := 18) (tgt := 2) d_Mo_refreshAll_18 rfl ?_
      refine k_sub [1, 0] rfl ?_
      exact ih a0 (zw (a1 + 1)) h3 _ hf
theorem b_Mo_refreshAll_0 (a0 : Nat) (h : zH) (r : zH) (hf : f_Mo_refreshAll a0 h = some r) : zK m_Mo_refreshAll 0 [(0, (2, ((a0 : Nat) : Int)))] [] h (none, r) := by
  unfold f_Mo_refreshAll at hf
  refine k_iconst (pc := 0) (zi_lit rfl) d_Mo_refreshAll_0 ?_
  refine k_istore_n (pc := 1) (L' := [(1, (0, 0)), (0, (2, ((a0 : Nat) : Int)))]) rfl d_Mo_refreshAll_1 (Nat.le_of_ble_eq_true rfl) rfl ?_
  refine k_sub [1, 0] rfl ?_
  exact b_Mo_refreshAll_2 100000 a0 0 h _ hf
theorem t_Mo_refreshAll {a0 : Nat} {h : zH} {r : zH} (hf : f_Mo_refreshAll a0 h = some r) : zMt m_Mo_refreshAll [(2, ((a0 : Nat) : Int))] h (none, r) := zMt.of (by decide) (Nat.le_of_ble_eq_true rfl) (b_Mo_refreshAll_0 a0 h r hf)
theorem b_Mo_lift_29 : ∀ (n : Nat) (a0 : Nat) (a1 : Int) (a2 : Int) (a4 : Int) (a5 : Int) (h : zH) (r : zH), f_Mo_lift_29 n a0 a1 a2 a4 a5 h = some r → zK m_Mo_lift 29 [(0, (2, ((a0 : Nat) : Int))), (1, (0, a1)), (2, (0, a2)), (4, (0, a4)), (5, (0, a5))] [] h (none, r) := by
  intro n
  induction n with
  | zero =>
    intro a0 a1 a2 a4 a5 h r hf
    cases hf
  | succ n ih =>
    intro a0 a1 a2 a4 a5 h r hf
    unfold f_Mo_lift_29 at hf
    refine k_iload (pc := 29) z_m4 d_Mo_lift_29 ?_
    refine k_iload (pc := 31) z_m3 d_Mo_lift_31 ?_
    rcases z_it hf with ⟨w5, hf⟩ | ⟨w5, hf⟩
    · refine k_ic_ge_t (pc := 33) (tgt := 63) w5 d_Mo_lift_33 rfl ?_
      cases hf
      exact k_ret (pc := 63) d_Mo_lift_63 rfl
    · refine k_ic_ge_f (pc := 33) (tgt := 63) w5 d_Mo_lift_33 rfl ?_
      refine k_aload_n (pc := 36) rfl z_m0 d_Mo_lift_36 ?_
      obtain ⟨v1, e_v1, hf⟩ := z_bd hf
      refine k_getR (pc := 37) d_Mo_lift_37 fd_Mo_29 rfl e_v1 ?_
      refine k_bipush (pc := 40) (zi_lit rfl) (by decide) d_Mo_lift_40 ?_
      refine k_iload_n (pc := 42) rfl z_m1 d_Mo_lift_42 ?_
      refine k_imul (pc := 43) d_Mo_lift_43 ?_
      refine k_iload (pc := 44) z_m4 d_Mo_lift_44 ?_
      refine k_iadd (pc := 46) d_Mo_lift_46 ?_
      refine k_aload_n (pc := 47) rfl z_m0 d_Mo_lift_47 ?_
      obtain ⟨v2, e_v2, hf⟩ := z_bd hf
      refine k_getR (pc := 48) d_Mo_lift_48 fd_Mo_7 rfl e_v2 ?_
      refine k_iload_n (pc := 51) rfl z_m2 d_Mo_lift_51 ?_
      refine k_iload (pc := 52) z_m4 d_Mo_lift_52 ?_
      refine k_iadd (pc := 54) d_Mo_lift_54 ?_
      obtain ⟨v3, e_v3, hf⟩ := z_bd hf
      refine k_iald (pc := 55) d_Mo_lift_55 e_v3 ?_
      obtain ⟨h4, e_h4, hf⟩ := z_bd hf
      refine k_iast (pc := 56) d_Mo_lift_56 e_h4 ?_
      refine k_iinc (pc := 57) (L' := [(5, (0, zw (a5 + 1))), (0, (2, ((a0 : Nat) : Int))), (1, (0, a1)), (2, (0, a2)), (4, (0, a4))]) z_m4 d_Mo_lift_57 (Nat.le_of_ble_eq_true rfl) rfl ?_
      refine k_goto (pc := 60) (tgt := 29) d_Mo_lift_60 rfl ?_
      refine k_sub [1, 2, 3, 4, 0] rfl ?_
      exact ih a0 a1 a2 a4 (zw (a5 + 1)) h4 _ hf
theorem b_Mo_lift_16 (a0 : Nat) (a1 : Int) (a2 : Int) (s0 : Int) (h : zH) (r : zH) (hf : f_Mo_lift_16 a0 a1 a2 s0 h = some r) : zK m_Mo_lift 16 [(0, (2, ((a0 : Nat) : Int))), (1, (0, a1)), (2, (0, a2))] [(0, s0)] h (none, r) := by
  unfold f_Mo_lift_16 at hf
  refine k_istore (pc := 16) (L' := [(4, (0, s0)), (0, (2, ((a0 : Nat) : Int))), (1, (0, a1)), (2, (0, a2))]) d_Mo_lift_16 (Nat.le_of_ble_eq_true rfl) rfl ?_
  refine k_aload_n (pc := 18) rfl z_m1 d_Mo_lift_18 ?_
  obtain ⟨v6, e_v6, hf⟩ := z_bd hf
  refine k_getR (pc := 19) d_Mo_lift_19 fd_Mo_26 rfl e_v6 ?_
  refine k_iload_n (pc := 22) rfl z_m2 d_Mo_lift_22 ?_
  refine k_iload (pc := 23) z_m0 d_Mo_lift_23 ?_
  obtain ⟨h7, e_h7, hf⟩ := z_bd hf
  refine k_iast (pc := 25) d_Mo_lift_25 e_h7 ?_
  refine k_iconst (pc := 26) (zi_lit rfl) d_Mo_lift_26 ?_
  refine k_istore (pc := 27) (L' := [(5, (0, 0)), (4, (0, s0)), (0, (2, ((a0 : Nat) : Int))), (1, (0, a1)), (2, (0, a2))]) d_Mo_lift_27 (Nat.le_of_ble_eq_true rfl) rfl ?_
  refine k_sub [2, 3, 4, 1, 0] rfl ?_
  exact b_Mo_lift_29 100000 a0 a1 a2 s0 0 h7 _ hf
theorem b_Mo_lift_0 (a0 : Nat) (a1 : Int) (a2 : Int) (a3 : Int) (h : zH) (r : zH) (hf : f_Mo_lift a0 a1 a2 a3 h = some r) : zK m_Mo_lift 0 [(0, (2, ((a0 : Nat) : Int))), (1, (0, a1)), (2, (0, a2)), (3, (0, a3))] [] h (none, r) := by
  unfold f_Mo_lift at hf
  refine k_iload_n (pc := 0) rfl z_m3 d_Mo_lift_0 ?_
  refine k_iload_n (pc := 1) rfl z_m2 d_Mo_lift_1 ?_
  refine k_isub (pc := 2) d_Mo_lift_2 ?_
  refine k_bipush (pc := 3) (zi_lit rfl) (by decide) d_Mo_lift_3 ?_
  rcases z_it hf with ⟨w8, hf⟩ | ⟨w8, hf⟩
  · refine k_ic_le_t (pc := 5) (tgt := 13) w8 d_Mo_lift_5 rfl ?_
    refine k_iload_n (pc := 13) rfl z_m3 d_Mo_lift_13 ?_
    refine k_iload_n (pc := 14) rfl z_m2 d_Mo_lift_14 ?_
    refine k_isub (pc := 15) d_Mo_lift_15 ?_
    refine k_sub [0, 1, 2] rfl ?_
    exact b_Mo_lift_16 a0 a1 a2 (zw (a3 - a2)) h _ hf
  · refine k_ic_le_f (pc := 5) (tgt := 13) w8 d_Mo_lift_5 rfl ?_
    refine k_bipush (pc := 8) (zi_lit rfl) (by decide) d_Mo_lift_8 ?_
    refine k_goto (pc := 10) (tgt := 16) d_Mo_lift_10 rfl ?_
    refine k_sub [0, 1, 2] rfl ?_
    exact b_Mo_lift_16 a0 a1 a2 21 h _ hf
theorem t_Mo_lift {a0 : Nat} {a1 : Int} {a2 : Int} {a3 : Int} {h : zH} {r : zH} (hf : f_Mo_lift a0 a1 a2 a3 h = some r) : zMt m_Mo_lift [(2, ((a0 : Nat) : Int)), (0, a1), (0, a2), (0, a3)] h (none, r) := zMt.of (by decide) (Nat.le_of_ble_eq_true rfl) (b_Mo_lift_0 a0 a1 a2 a3 h r hf)
theorem b_Mo_isRangeNumber_0 (a0 : Nat) (a1 : Int) (h : zH) (r : Int × zH) (hf : f_Mo_isRangeNumber a0 a1 h = some r) : zK m_Mo_isRangeNumber 0 [(0, (2, ((a0 : Nat) : Int))), (1, (0, a1))] [] h (some (0, r.1), r.2) := by
  unfold f_Mo_isRangeNumber at hf
  refine k_iload_n (pc := 0) rfl z_m1 d_Mo_isRangeNumber_0 ?_
  rcases z_it hf with ⟨w6, hf⟩ | ⟨w6, hf⟩
  · refine k_if_lt_t (pc := 1) (tgt := 25) w6 d_Mo_isRangeNumber_1 rfl ?_
    refine k_iconst (pc := 25) (zi_lit rfl) d_Mo_isRangeNumber_25 ?_
    cases hf
    exact k_zret (pc := 26) d_Mo_isRangeNumber_26 rfl (Or.inl rfl)
  · refine k_if_lt_f (pc := 1) (tgt := 25) w6 d_Mo_isRangeNumber_1 rfl ?_
    refine k_iload_n (pc := 4) rfl z_m1 d_Mo_isRangeNumber_4 ?_
    refine k_aload_n (pc := 5) rfl z_m0 d_Mo_isRangeNumber_5 ?_
    obtain ⟨v1, e_v1, hf⟩ := z_bd hf
    refine k_getI (pc := 6) d_Mo_isRangeNumber_6 fd_Mo_203 rfl e_v1 ?_
    rcases z_it hf with ⟨w5, hf⟩ | ⟨w5, hf⟩
    · refine k_ic_gt_t (pc := 9) (tgt := 25) w5 d_Mo_isRangeNumber_9 rfl ?_
      refine k_iconst (pc := 25) (zi_lit rfl) d_Mo_isRangeNumber_25 ?_
      cases hf
      exact k_zret (pc := 26) d_Mo_isRangeNumber_26 rfl (Or.inl rfl)
    · refine k_ic_gt_f (pc := 9) (tgt := 25) w5 d_Mo_isRangeNumber_9 rfl ?_
      refine k_aload_n (pc := 12) rfl z_m0 d_Mo_isRangeNumber_12 ?_
      obtain ⟨v2, e_v2, hf⟩ := z_bd hf
      refine k_getR (pc := 13) d_Mo_isRangeNumber_13 fd_Mo_13 rfl e_v2 ?_
      refine k_iload_n (pc := 16) rfl z_m1 d_Mo_isRangeNumber_16 ?_
      obtain ⟨v3, e_v3, hf⟩ := z_bd hf
      refine k_zald (pc := 17) d_Mo_isRangeNumber_17 e_v3 ?_
      rcases z_it hf with ⟨w4, hf⟩ | ⟨w4, hf⟩
      · refine k_if_eq_t (pc := 18) (tgt := 25) w4 d_Mo_isRangeNumber_18 rfl ?_
        refine k_iconst (pc := 25) (zi_lit rfl) d_Mo_isRangeNumber_25 ?_
        cases hf
        exact k_zret (pc := 26) d_Mo_isRangeNumber_26 rfl (Or.inl rfl)
      · refine k_if_eq_f (pc := 18) (tgt := 25) w4 d_Mo_isRangeNumber_18 rfl ?_
        refine k_iconst (pc := 21) (zi_lit rfl) d_Mo_isRangeNumber_21 ?_
        refine k_goto (pc := 22) (tgt := 26) d_Mo_isRangeNumber_22 rfl ?_
        cases hf
        exact k_zret (pc := 26) d_Mo_isRangeNumber_26 rfl (Or.inr rfl)
theorem t_Mo_isRangeNumber {a0 : Nat} {a1 : Int} {h : zH} {r : Int × zH} (hf : f_Mo_isRangeNumber a0 a1 h = some r) : zMt m_Mo_isRangeNumber [(2, ((a0 : Nat) : Int)), (0, a1)] h (some (0, r.1), r.2) := zMt.of (by decide) (Nat.le_of_ble_eq_true rfl) (b_Mo_isRangeNumber_0 a0 a1 h r hf)
theorem b_Mo_isPattern_0 (a0 : Nat) (a1 : Int) (a2 : Int) (a3 : Int) (h : zH) (r : Int × zH) (hf : f_Mo_isPattern a0 a1 a2 a3 h = some r) : zK m_Mo_isPattern 0 [(0, (2, ((a0 : Nat) : Int))), (1, (0, a1)), (2, (0, a2)), (3, (0, a3))] [] h (some (0, r.1), r.2) := by
  unfold f_Mo_isPattern at hf
  refine k_aload_n (pc := 0) rfl z_m0 d_Mo_isPattern_0 ?_
  refine k_bipush (pc := 1) (zi_lit rfl) (by decide) d_Mo_isPattern_1 ?_
  refine k_iload_n (pc := 3) rfl z_m1 d_Mo_isPattern_3 ?_
  refine k_iload_n (pc := 4) rfl z_m2 d_Mo_isPattern_4 ?_
  obtain ⟨n1, e_n1, hf⟩ := z_bd hf
  obtain ⟨h2, e_h2, hf⟩ := z_bd hf
  refine k_callVv (pc := 5) (as := [(0, 20), (0, a1), (0, a2)]) (rest := []) d_Mo_isPattern_5 cw_Mo_isPattern_251 rfl (Nat.le_of_ble_eq_true rfl) (z_ck_of e_n1) (t_Mo_lift e_h2) ?_
  refine k_aload_n (pc := 8) rfl z_m0 d_Mo_isPattern_8 ?_
  refine k_bipush (pc := 9) (zi_lit rfl) (by decide) d_Mo_isPattern_9 ?_
  refine k_iload_n (pc := 11) rfl z_m3 d_Mo_isPattern_11 ?_
  obtain ⟨n3, e_n3, hf⟩ := z_bd hf
  obtain ⟨q4, e_q4, hf⟩ := z_bd hf
  refine k_callVi (pc := 12) (as := [(0, 20), (0, a3)]) (rest := []) d_Mo_isPattern_12 cw_Mo_isPattern_254 rfl (Nat.le_of_ble_eq_true rfl) (z_ck_of e_n3) (t_Mo_parse e_q4) ?_
  obtain ⟨b, eb, hf⟩ := z_bd hf
  have hb := z_bo_of eb
  rw [hb.1] at hf
  cases hf
  exact k_zret (pc := 15) d_Mo_isPattern_15 rfl hb.2
theorem t_Mo_isPattern {a0 : Nat} {a1 : Int} {a2 : Int} {a3 : Int} {h : zH} {r : Int × zH} (hf : f_Mo_isPattern a0 a1 a2 a3 h = some r) : zMt m_Mo_isPattern [(2, ((a0 : Nat) : Int)), (0, a1), (0, a2), (0, a3)] h (some (0, r.1), r.2) := zMt.of (by decide) (Nat.le_of_ble_eq_true rfl) (b_Mo_isPattern_0 a0 a1 a2 a3 h r hf)
theorem b_Mo_make_105 (a0 : Nat) (h : zH) (r : Int × zH) (hf : f_Mo_make_105 a0 h = some r) : zK m_Mo_make 105 [(0, (2, ((a0 : Nat) : Int)))] [] h (some (0, r.1), r.2) := by
  unfold f_Mo_make_105 at hf
  refine k_aload_n (pc := 105) rfl z_m0 d_Mo_make_105 ?_
  refine k_iconst (pc := 106) (zi_lit rfl) d_Mo_make_106 ?_
  obtain ⟨h1, e_h1, hf⟩ := z_bd hf
  refine k_putI (pc := 107) d_Mo_make_107 fd_Mo_129 (fun q => by cases q) rfl e_h1 ?_
  refine k_aload_n (pc := 110) rfl z_m0 d_Mo_make_110 ?_
  obtain ⟨n2, e_n2, hf⟩ := z_bd hf
  obtain ⟨h3, e_h3, hf⟩ := z_bd hf
  refine k_callVv (pc := 111) (as := []) (rest := []) d_Mo_make_111 cw_Mo_make_258 rfl (Nat.le_of_ble_eq_true rfl) (z_ck_of e_n2) (t_Mo_refreshAll e_h3) ?_
  refine k_aload_n (pc := 114) rfl z_m0 d_Mo_make_114 ?_
  obtain ⟨v4, e_v4, hf⟩ := z_bd hf
  refine k_getI (pc := 115) d_Mo_make_115 fd_Mo_203 rfl e_v4 ?_
  cases hf
  exact k_iret (pc := 118) d_Mo_make_118 rfl
theorem b_Mo_make_0 (a0 : Nat) (a1 : Int) (a2 : Int) (a3 : Int) (a4 : Int) (h : zH) (r : Int × zH) (hf : f_Mo_make a0 a1 a2 a3 a4 h = some r) : zK m_Mo_make 0 [(0, (2, ((a0 : Nat) : Int))), (1, (0, a1)), (2, (0, a2)), (3, (0, a3)), (4, (0, a4))] [] h (some (0, r.1), r.2) := by
  unfold f_Mo_make at hf
  refine k_aload_n (pc := 0) rfl z_m0 d_Mo_make_0 ?_
  refine k_dup (pc := 1) (Or.inr rfl) d_Mo_make_1 ?_
  obtain ⟨v5, e_v5, hf⟩ := z_bd hf
  refine k_getI (pc := 2) d_Mo_make_2 fd_Mo_203 rfl e_v5 ?_
  refine k_iconst (pc := 5) (zi_lit rfl) d_Mo_make_5 ?_
  refine k_iadd (pc := 6) d_Mo_make_6 ?_
  obtain ⟨h6, e_h6, hf⟩ := z_bd hf
  refine k_putI (pc := 7) d_Mo_make_7 fd_Mo_203 (fun q => by cases q) rfl e_h6 ?_
  refine k_aload_n (pc := 10) rfl z_m0 d_Mo_make_10 ?_
  obtain ⟨v7, e_v7, hf⟩ := z_bd hf
  refine k_getR (pc := 11) d_Mo_make_11 fd_Mo_17 rfl e_v7 ?_
  refine k_aload_n (pc := 14) rfl z_m0 d_Mo_make_14 ?_
  obtain ⟨v8, e_v8, hf⟩ := z_bd hf
  refine k_getI (pc := 15) d_Mo_make_15 fd_Mo_203 rfl e_v8 ?_
  refine k_iload_n (pc := 18) rfl z_m1 d_Mo_make_18 ?_
  obtain ⟨h9, e_h9, hf⟩ := z_bd hf
  refine k_iast (pc := 19) d_Mo_make_19 e_h9 ?_
  refine k_aload_n (pc := 20) rfl z_m0 d_Mo_make_20 ?_
  obtain ⟨v10, e_v10, hf⟩ := z_bd hf
  refine k_getR (pc := 21) d_Mo_make_21 fd_Mo_20 rfl e_v10 ?_
  refine k_aload_n (pc := 24) rfl z_m0 d_Mo_make_24 ?_
  obtain ⟨v11, e_v11, hf⟩ := z_bd hf
  refine k_getI (pc := 25) d_Mo_make_25 fd_Mo_203 rfl e_v11 ?_
  refine k_iload_n (pc := 28) rfl z_m2 d_Mo_make_28 ?_
  obtain ⟨h12, e_h12, hf⟩ := z_bd hf
  refine k_iast (pc := 29) d_Mo_make_29 e_h12 ?_
  refine k_aload_n (pc := 30) rfl z_m0 d_Mo_make_30 ?_
  obtain ⟨v13, e_v13, hf⟩ := z_bd hf
  refine k_getR (pc := 31) d_Mo_make_31 fd_Mo_13 rfl e_v13 ?_
  refine k_aload_n (pc := 34) rfl z_m0 d_Mo_make_34 ?_
  obtain ⟨v14, e_v14, hf⟩ := z_bd hf
  refine k_getI (pc := 35) d_Mo_make_35 fd_Mo_203 rfl e_v14 ?_
  refine k_iload_n (pc := 38) rfl z_m3 d_Mo_make_38 ?_
  obtain ⟨h15, e_h15, hf⟩ := z_bd hf
  refine k_zast (pc := 39) d_Mo_make_39 e_h15 ?_
  refine k_aload_n (pc := 40) rfl z_m0 d_Mo_make_40 ?_
  refine k_iconst (pc := 41) (zi_lit rfl) d_Mo_make_41 ?_
  refine k_aload_n (pc := 42) rfl z_m0 d_Mo_make_42 ?_
  obtain ⟨v16, e_v16, hf⟩ := z_bd hf
  refine k_getI (pc := 43) d_Mo_make_43 fd_Mo_203 rfl e_v16 ?_
  refine k_imul (pc := 46) d_Mo_make_46 ?_
  refine k_iconst (pc := 47) (zi_lit rfl) d_Mo_make_47 ?_
  refine k_iload (pc := 48) z_m4 d_Mo_make_48 ?_
  obtain ⟨n17, e_n17, hf⟩ := z_bd hf
  obtain ⟨h18, e_h18, hf⟩ := z_bd hf
  refine k_callVv (pc := 50) (as := [(0, zw (2 * v16)), (0, 0), (0, a4)]) (rest := []) d_Mo_make_50 cw_Mo_make_251 rfl (Nat.le_of_ble_eq_true rfl) (z_ck_of e_n17) (t_Mo_lift e_h18) ?_
  refine k_aload_n (pc := 53) rfl z_m0 d_Mo_make_53 ?_
  refine k_iconst (pc := 54) (zi_lit rfl) d_Mo_make_54 ?_
  refine k_aload_n (pc := 55) rfl z_m0 d_Mo_make_55 ?_
  obtain ⟨v19, e_v19, hf⟩ := z_bd hf
  refine k_getI (pc := 56) d_Mo_make_56 fd_Mo_203 rfl e_v19 ?_
  refine k_imul (pc := 59) d_Mo_make_59 ?_
  refine k_iconst (pc := 60) (zi_lit rfl) d_Mo_make_60 ?_
  obtain ⟨n20, e_n20, hf⟩ := z_bd hf
  obtain ⟨q21, e_q21, hf⟩ := z_bd hf
  refine k_callVi (pc := 61) (as := [(0, zw (2 * v19)), (0, 0)]) (rest := []) d_Mo_make_61 cw_Mo_make_254 rfl (Nat.le_of_ble_eq_true rfl) (z_ck_of e_n20) (t_Mo_parse e_q21) ?_
  refine k_istore (pc := 64) (L' := [(5, (0, q21.1)), (0, (2, ((a0 : Nat) : Int))), (1, (0, a1)), (2, (0, a2)), (3, (0, a3)), (4, (0, a4))]) d_Mo_make_64 (Nat.le_of_ble_eq_true rfl) rfl ?_
  refine k_iload_n (pc := 66) rfl z_m4 d_Mo_make_66 ?_
  rcases z_it hf with ⟨w29, hf⟩ | ⟨w29, hf⟩
  · refine k_if_eq_t (pc := 67) (tgt := 105) w29 d_Mo_make_67 rfl ?_
    refine k_sub [1] rfl ?_
    exact b_Mo_make_105 a0 q21.2 _ hf
  · refine k_if_eq_f (pc := 67) (tgt := 105) w29 d_Mo_make_67 rfl ?_
    refine k_aload_n (pc := 70) rfl z_m1 d_Mo_make_70 ?_
    refine k_iconst (pc := 71) (zi_lit rfl) d_Mo_make_71 ?_
    refine k_aload_n (pc := 72) rfl z_m1 d_Mo_make_72 ?_
    obtain ⟨v22, e_v22, hf⟩ := z_bd hf
    refine k_getI (pc := 73) d_Mo_make_73 fd_Mo_203 rfl e_v22 ?_
    refine k_imul (pc := 76) d_Mo_make_76 ?_
    refine k_iconst (pc := 77) (zi_lit rfl) d_Mo_make_77 ?_
    refine k_iadd (pc := 78) d_Mo_make_78 ?_
    refine k_iload (pc := 79) z_m5 d_Mo_make_79 ?_
    refine k_iconst (pc := 81) (zi_lit rfl) d_Mo_make_81 ?_
    refine k_iadd (pc := 82) d_Mo_make_82 ?_
    refine k_aload_n (pc := 83) rfl z_m1 d_Mo_make_83 ?_
    obtain ⟨v23, e_v23, hf⟩ := z_bd hf
    refine k_getI (pc := 84) d_Mo_make_84 fd_Mo_129 rfl e_v23 ?_
    obtain ⟨n24, e_n24, hf⟩ := z_bd hf
    obtain ⟨h25, e_h25, hf⟩ := z_bd hf
    refine k_callVv (pc := 87) (as := [(0, zw ((zw (2 * v22)) + 1)), (0, zw (a4 + 1)), (0, v23)]) (rest := []) d_Mo_make_87 cw_Mo_make_251 rfl (Nat.le_of_ble_eq_true rfl) (z_ck_of e_n24) (t_Mo_lift e_h25) ?_
    refine k_aload_n (pc := 90) rfl z_m1 d_Mo_make_90 ?_
    refine k_iconst (pc := 91) (zi_lit rfl) d_Mo_make_91 ?_
    refine k_aload_n (pc := 92) rfl z_m1 d_Mo_make_92 ?_
    obtain ⟨v26, e_v26, hf⟩ := z_bd hf
    refine k_getI (pc := 93) d_Mo_make_93 fd_Mo_203 rfl e_v26 ?_
    refine k_imul (pc := 96) d_Mo_make_96 ?_
    refine k_iconst (pc := 97) (zi_lit rfl) d_Mo_make_97 ?_
    refine k_iadd (pc := 98) d_Mo_make_98 ?_
    refine k_iconst (pc := 99) (zi_lit rfl) d_Mo_make_99 ?_
    obtain ⟨n27, e_n27, hf⟩ := z_bd hf
    obtain ⟨q28, e_q28, hf⟩ := z_bd hf
    refine k_callVi (pc := 100) (as := [(0, zw ((zw (2 * v26)) + 1)), (0, 1)]) (rest := []) d_Mo_make_100 cw_Mo_make_254 rfl (Nat.le_of_ble_eq_true rfl) (z_ck_of e_n27) (t_Mo_parse e_q28) ?_
    refine k_istore (pc := 103) (L' := [(5, (0, q28.1)), (0, (2, ((a0 : Nat) : Int))), (1, (0, a1)), (2, (0, a2)), (3, (0, a3)), (4, (0, a4))]) d_Mo_make_103 (Nat.le_of_ble_eq_true rfl) rfl ?_
    refine k_sub [1] rfl ?_
    exact b_Mo_make_105 a0 q28.2 _ hf
theorem t_Mo_make {a0 : Nat} {a1 : Int} {a2 : Int} {a3 : Int} {a4 : Int} {h : zH} {r : Int × zH} (hf : f_Mo_make a0 a1 a2 a3 a4 h = some r) : zMt m_Mo_make [(2, ((a0 : Nat) : Int)), (0, a1), (0, a2), (0, a3), (0, a4)] h (some (0, r.1), r.2) := zMt.of (by decide) (Nat.le_of_ble_eq_true rfl) (b_Mo_make_0 a0 a1 a2 a3 a4 h r hf)
theorem b_Mo_piece_0 (a0 : Nat) (a1 : Int) (a2 : Int) (h : zH) (r : Int × zH) (hf : f_Mo_piece a0 a1 a2 h = some r) : zK m_Mo_piece 0 [(0, (2, ((a0 : Nat) : Int))), (1, (0, a1)), (2, (0, a2))] [] h (some (0, r.1), r.2) := by
  unfold f_Mo_piece at hf
  refine k_aload_n (pc := 0) rfl z_m0 d_Mo_piece_0 ?_
  refine k_iload_n (pc := 1) rfl z_m1 d_Mo_piece_1 ?_
  obtain ⟨n1, e_n1, hf⟩ := z_bd hf
  obtain ⟨q2, e_q2, hf⟩ := z_bd hf
  refine k_callVi (pc := 2) (as := [(0, a1)]) (rest := []) d_Mo_piece_2 cw_Mo_piece_261 rfl (Nat.le_of_ble_eq_true rfl) (z_ck_of e_n1) (t_Mo_isRangeNumber e_q2) ?_
  rcases z_it hf with ⟨w14, hf⟩ | ⟨w14, hf⟩
  · refine k_if_eq_t (pc := 5) (tgt := 19) w14 d_Mo_piece_5 rfl ?_
    refine k_iconst (pc := 19) (zi_lit rfl) d_Mo_piece_19 ?_
    cases hf
    exact k_iret (pc := 20) d_Mo_piece_20 rfl
  · refine k_if_eq_f (pc := 5) (tgt := 19) w14 d_Mo_piece_5 rfl ?_
    refine k_iload_n (pc := 8) rfl z_m2 d_Mo_piece_8 ?_
    refine k_iconst (pc := 9) (zi_lit rfl) d_Mo_piece_9 ?_
    rcases z_it hf with ⟨w13, hf⟩ | ⟨w13, hf⟩
    · refine k_ic_lt_t (pc := 10) (tgt := 19) w13 d_Mo_piece_10 rfl ?_
      refine k_iconst (pc := 19) (zi_lit rfl) d_Mo_piece_19 ?_
      cases hf
      exact k_iret (pc := 20) d_Mo_piece_20 rfl
    · refine k_ic_lt_f (pc := 10) (tgt := 19) w13 d_Mo_piece_10 rfl ?_
      refine k_iload_n (pc := 13) rfl z_m2 d_Mo_piece_13 ?_
      refine k_bipush (pc := 14) (zi_lit rfl) (by decide) d_Mo_piece_14 ?_
      rcases z_it hf with ⟨w12, hf⟩ | ⟨w12, hf⟩
      · refine k_ic_le_t (pc := 16) (tgt := 21) w12 d_Mo_piece_16 rfl ?_
        refine k_aload_n (pc := 21) rfl z_m0 d_Mo_piece_21 ?_
        refine k_iconst (pc := 22) (zi_lit rfl) d_Mo_piece_22 ?_
        refine k_aload_n (pc := 23) rfl z_m0 d_Mo_piece_23 ?_
        obtain ⟨v3, e_v3, hf⟩ := z_bd hf
        refine k_getI (pc := 24) d_Mo_piece_24 fd_Mo_129 rfl e_v3 ?_
        refine k_iconst (pc := 27) (zi_lit rfl) d_Mo_piece_27 ?_
        obtain ⟨n4, e_n4, hf⟩ := z_bd hf
        obtain ⟨q5, e_q5, hf⟩ := z_bd hf
        refine k_callVi (pc := 28) (as := [(0, 0), (0, v3), (0, 0)]) (rest := []) d_Mo_piece_28 cw_Mo_piece_264 rfl (Nat.le_of_ble_eq_true rfl) (z_ck_of e_n4) (t_Mo_isPattern e_q5) ?_
        rcases z_it hf with ⟨w11, hf⟩ | ⟨w11, hf⟩
        · refine k_if_ne_f (pc := 31) (tgt := 37) w11 d_Mo_piece_31 rfl ?_
          refine k_bipush (pc := 34) (zi_lit rfl) (by decide) d_Mo_piece_34 ?_
          cases hf
          exact k_iret (pc := 36) d_Mo_piece_36 rfl
        · refine k_if_ne_t (pc := 31) (tgt := 37) w11 d_Mo_piece_31 rfl ?_
          refine k_aload_n (pc := 37) rfl z_m0 d_Mo_piece_37 ?_
          obtain ⟨v6, e_v6, hf⟩ := z_bd hf
          refine k_getI (pc := 38) d_Mo_piece_38 fd_Mo_203 rfl e_v6 ?_
          refine k_bipush (pc := 41) (zi_lit rfl) (by decide) d_Mo_piece_41 ?_
          rcases z_it hf with ⟨w10, hf⟩ | ⟨w10, hf⟩
          · refine k_ic_ne_f (pc := 43) (tgt := 51) w10 d_Mo_piece_43 rfl ?_
            refine k_bipush (pc := 46) (zi_lit rfl) (by decide) d_Mo_piece_46 ?_
            refine k_goto (pc := 48) (tgt := 62) d_Mo_piece_48 rfl ?_
            cases hf
            exact k_iret (pc := 62) d_Mo_piece_62 rfl
          · refine k_ic_ne_t (pc := 43) (tgt := 51) w10 d_Mo_piece_43 rfl ?_
            refine k_aload_n (pc := 51) rfl z_m0 d_Mo_piece_51 ?_
            refine k_iload_n (pc := 52) rfl z_m1 d_Mo_piece_52 ?_
            refine k_iload_n (pc := 53) rfl z_m2 d_Mo_piece_53 ?_
            refine k_iconst (pc := 54) (zi_lit rfl) d_Mo_piece_54 ?_
            refine k_aload_n (pc := 55) rfl z_m0 d_Mo_piece_55 ?_
            obtain ⟨v7, e_v7, hf⟩ := z_bd hf
            refine k_getI (pc := 56) d_Mo_piece_56 fd_Mo_129 rfl e_v7 ?_
            obtain ⟨n8, e_n8, hf⟩ := z_bd hf
            obtain ⟨q9, e_q9, hf⟩ := z_bd hf
            refine k_callVi (pc := 59) (as := [(0, a1), (0, a2), (0, 0), (0, v7)]) (rest := []) d_Mo_piece_59 cw_Mo_piece_268 rfl (Nat.le_of_ble_eq_true rfl) (z_ck_of e_n8) (t_Mo_make e_q9) ?_
            cases hf
            exact k_iret (pc := 62) d_Mo_piece_62 rfl
      · refine k_ic_le_f (pc := 16) (tgt := 21) w12 d_Mo_piece_16 rfl ?_
        refine k_iconst (pc := 19) (zi_lit rfl) d_Mo_piece_19 ?_
        cases hf
        exact k_iret (pc := 20) d_Mo_piece_20 rfl
theorem t_Mo_piece {a0 : Nat} {a1 : Int} {a2 : Int} {h : zH} {r : Int × zH} (hf : f_Mo_piece a0 a1 a2 h = some r) : zMt m_Mo_piece [(2, ((a0 : Nat) : Int)), (0, a1), (0, a2)] h (some (0, r.1), r.2) := zMt.of (by decide) (Nat.le_of_ble_eq_true rfl) (b_Mo_piece_0 a0 a1 a2 h r hf)
theorem b_Mo_range_48 (a0 : Nat) (a1 : Int) (a2 : Int) (a3 : Int) (h : zH) (r : Int × zH) (hf : f_Mo_range_48 a0 a1 a2 a3 h = some r) : zK m_Mo_range 48 [(0, (2, ((a0 : Nat) : Int))), (1, (0, a1)), (2, (0, a2)), (3, (0, a3))] [] h (some (0, r.1), r.2) := by
  unfold f_Mo_range_48 at hf
  refine k_iload_n (pc := 48) rfl z_m3 d_Mo_range_48 ?_
  refine k_aload_n (pc := 49) rfl z_m0 d_Mo_range_49 ?_
  obtain ⟨v1, e_v1, hf⟩ := z_bd hf
  refine k_getI (pc := 50) d_Mo_range_50 fd_Mo_129 rfl e_v1 ?_
  rcases z_it hf with ⟨w13, hf⟩ | ⟨w13, hf⟩
  · refine k_ic_eq_t (pc := 53) (tgt := 81) w13 d_Mo_range_53 rfl ?_
    refine k_bipush (pc := 81) (zi_lit rfl) (by decide) d_Mo_range_81 ?_
    cases hf
    exact k_iret (pc := 83) d_Mo_range_83 rfl
  · refine k_ic_eq_f (pc := 53) (tgt := 81) w13 d_Mo_range_53 rfl ?_
    refine k_aload_n (pc := 56) rfl z_m0 d_Mo_range_56 ?_
    refine k_iconst (pc := 57) (zi_lit rfl) d_Mo_range_57 ?_
    refine k_iload_n (pc := 58) rfl z_m3 d_Mo_range_58 ?_
    refine k_iconst (pc := 59) (zi_lit rfl) d_Mo_range_59 ?_
    obtain ⟨n2, e_n2, hf⟩ := z_bd hf
    obtain ⟨q3, e_q3, hf⟩ := z_bd hf
    refine k_callVi (pc := 60) (as := [(0, 0), (0, a3), (0, 0)]) (rest := []) d_Mo_range_60 cw_Mo_range_264 rfl (Nat.le_of_ble_eq_true rfl) (z_ck_of e_n2) (t_Mo_isPattern e_q3) ?_
    rcases z_it hf with ⟨w12, hf⟩ | ⟨w12, hf⟩
    · refine k_if_eq_t (pc := 63) (tgt := 81) w12 d_Mo_range_63 rfl ?_
      refine k_bipush (pc := 81) (zi_lit rfl) (by decide) d_Mo_range_81 ?_
      cases hf
      exact k_iret (pc := 83) d_Mo_range_83 rfl
    · refine k_if_eq_f (pc := 63) (tgt := 81) w12 d_Mo_range_63 rfl ?_
      refine k_aload_n (pc := 66) rfl z_m0 d_Mo_range_66 ?_
      refine k_iload_n (pc := 67) rfl z_m3 d_Mo_range_67 ?_
      refine k_iconst (pc := 68) (zi_lit rfl) d_Mo_range_68 ?_
      refine k_iadd (pc := 69) d_Mo_range_69 ?_
      refine k_aload_n (pc := 70) rfl z_m0 d_Mo_range_70 ?_
      obtain ⟨v4, e_v4, hf⟩ := z_bd hf
      refine k_getI (pc := 71) d_Mo_range_71 fd_Mo_129 rfl e_v4 ?_
      refine k_iconst (pc := 74) (zi_lit rfl) d_Mo_range_74 ?_
      obtain ⟨n5, e_n5, hf⟩ := z_bd hf
      obtain ⟨q6, e_q6, hf⟩ := z_bd hf
      refine k_callVi (pc := 75) (as := [(0, zw (a3 + 1)), (0, v4), (0, 1)]) (rest := []) d_Mo_range_75 cw_Mo_range_264 rfl (Nat.le_of_ble_eq_true rfl) (z_ck_of e_n5) (t_Mo_isPattern e_q6) ?_
      rcases z_it hf with ⟨w11, hf⟩ | ⟨w11, hf⟩
      · refine k_if_ne_f (pc := 78) (tgt := 84) w11 d_Mo_range_78 rfl ?_
        refine k_bipush (pc := 81) (zi_lit rfl) (by decide) d_Mo_range_81 ?_
        cases hf
        exact k_iret (pc := 83) d_Mo_range_83 rfl
      · refine k_if_ne_t (pc := 78) (tgt := 84) w11 d_Mo_range_78 rfl ?_
        refine k_aload_n (pc := 84) rfl z_m0 d_Mo_range_84 ?_
        obtain ⟨v7, e_v7, hf⟩ := z_bd hf
        refine k_getI (pc := 85) d_Mo_range_85 fd_Mo_203 rfl e_v7 ?_
        refine k_bipush (pc := 88) (zi_lit rfl) (by decide) d_Mo_range_88 ?_
        rcases z_it hf with ⟨w10, hf⟩ | ⟨w10, hf⟩
        · refine k_ic_ne_f (pc := 90) (tgt := 98) w10 d_Mo_range_90 rfl ?_
          refine k_bipush (pc := 93) (zi_lit rfl) (by decide) d_Mo_range_93 ?_
          refine k_goto (pc := 95) (tgt := 106) d_Mo_range_95 rfl ?_
          cases hf
          exact k_iret (pc := 106) d_Mo_range_106 rfl
        · refine k_ic_ne_t (pc := 90) (tgt := 98) w10 d_Mo_range_90 rfl ?_
          refine k_aload_n (pc := 98) rfl z_m0 d_Mo_range_98 ?_
          refine k_iload_n (pc := 99) rfl z_m1 d_Mo_range_99 ?_
          refine k_iload_n (pc := 100) rfl z_m2 d_Mo_range_100 ?_
          refine k_iconst (pc := 101) (zi_lit rfl) d_Mo_range_101 ?_
          refine k_iload_n (pc := 102) rfl z_m3 d_Mo_range_102 ?_
          obtain ⟨n8, e_n8, hf⟩ := z_bd hf
          obtain ⟨q9, e_q9, hf⟩ := z_bd hf
          refine k_callVi (pc := 103) (as := [(0, a1), (0, a2), (0, 1), (0, a3)]) (rest := []) d_Mo_range_103 cw_Mo_range_268 rfl (Nat.le_of_ble_eq_true rfl) (z_ck_of e_n8) (t_Mo_make e_q9) ?_
          cases hf
          exact k_iret (pc := 106) d_Mo_range_106 rfl
theorem b_Mo_range_23 : ∀ (n : Nat) (a0 : Nat) (a1 : Int) (a2 : Int) (a3 : Int) (h : zH) (r : Int × zH), f_Mo_range_23 n a0 a1 a2 a3 h = some r → zK m_Mo_range 23 [(0, (2, ((a0 : Nat) : Int))), (1, (0, a1)), (2, (0, a2)), (3, (0, a3))] [] h (some (0, r.1), r.2) := by
  intro n
  induction n with
  | zero =>
    intro a0 a1 a2 a3 h r hf
    cases hf
  | succ n ih =>
    intro a0 a1 a2 a3 h r hf
    unfold f_Mo_range_23 at hf
    refine k_iload_n (pc := 23) rfl z_m3 d_Mo_range_23 ?_
    refine k_aload_n (pc := 24) rfl z_m0 d_Mo_range_24 ?_
    obtain ⟨v14, e_v14, hf⟩ := z_bd hf
    refine k_getI (pc := 25) d_Mo_range_25 fd_Mo_129 rfl e_v14 ?_
    rcases z_it hf with ⟨w18, hf⟩ | ⟨w18, hf⟩
    · refine k_ic_ge_t (pc := 28) (tgt := 48) w18 d_Mo_range_28 rfl ?_
      exact b_Mo_range_48 a0 a1 a2 a3 h _ hf
    · refine k_ic_ge_f (pc := 28) (tgt := 48) w18 d_Mo_range_28 rfl ?_
      refine k_aload_n (pc := 31) rfl z_m0 d_Mo_range_31 ?_
      obtain ⟨v15, e_v15, hf⟩ := z_bd hf
      refine k_getR (pc := 32) d_Mo_range_32 fd_Mo_7 rfl e_v15 ?_
      refine k_iload_n (pc := 35) rfl z_m3 d_Mo_range_35 ?_
      obtain ⟨v16, e_v16, hf⟩ := z_bd hf
      refine k_iald (pc := 36) d_Mo_range_36 e_v16 ?_
      refine k_bipush (pc := 37) (zi_lit rfl) (by decide) d_Mo_range_37 ?_
      rcases z_it hf with ⟨w17, hf⟩ | ⟨w17, hf⟩
      · refine k_ic_eq_t (pc := 39) (tgt := 48) w17 d_Mo_range_39 rfl ?_
        exact b_Mo_range_48 a0 a1 a2 a3 h _ hf
      · refine k_ic_eq_f (pc := 39) (tgt := 48) w17 d_Mo_range_39 rfl ?_
        refine k_iinc (pc := 42) (L' := [(3, (0, zw (a3 + 1))), (0, (2, ((a0 : Nat) : Int))), (1, (0, a1)), (2, (0, a2))]) z_m3 d_Mo_range_42 (Nat.le_of_ble_eq_true rfl) rfl ?_
        refine k_goto (pc := 45) (tgt := 23) d_Mo_range_45 rfl ?_
        refine k_sub [1, 2, 3, 0] rfl ?_
        exact ih a0 a1 a2 (zw (a3 + 1)) h _ hf
theorem b_Mo_range_0 (a0 : Nat) (a1 : Int) (a2 : Int) (h : zH) (r : Int × zH) (hf : f_Mo_range a0 a1 a2 h = some r) : zK m_Mo_range 0 [(0, (2, ((a0 : Nat) : Int))), (1, (0, a1)), (2, (0, a2))] [] h (some (0, r.1), r.2) := by
  unfold f_Mo_range at hf
  refine k_aload_n (pc := 0) rfl z_m0 d_Mo_range_0 ?_
  refine k_iload_n (pc := 1) rfl z_m1 d_Mo_range_1 ?_
  obtain ⟨n19, e_n19, hf⟩ := z_bd hf
  obtain ⟨q20, e_q20, hf⟩ := z_bd hf
  refine k_callVi (pc := 2) (as := [(0, a1)]) (rest := []) d_Mo_range_2 cw_Mo_range_261 rfl (Nat.le_of_ble_eq_true rfl) (z_ck_of e_n19) (t_Mo_isRangeNumber e_q20) ?_
  rcases z_it hf with ⟨w23, hf⟩ | ⟨w23, hf⟩
  · refine k_if_eq_t (pc := 5) (tgt := 19) w23 d_Mo_range_5 rfl ?_
    refine k_iconst (pc := 19) (zi_lit rfl) d_Mo_range_19 ?_
    cases hf
    exact k_iret (pc := 20) d_Mo_range_20 rfl
  · refine k_if_eq_f (pc := 5) (tgt := 19) w23 d_Mo_range_5 rfl ?_
    refine k_iload_n (pc := 8) rfl z_m2 d_Mo_range_8 ?_
    refine k_iconst (pc := 9) (zi_lit rfl) d_Mo_range_9 ?_
    rcases z_it hf with ⟨w22, hf⟩ | ⟨w22, hf⟩
    · refine k_ic_lt_t (pc := 10) (tgt := 19) w22 d_Mo_range_10 rfl ?_
      refine k_iconst (pc := 19) (zi_lit rfl) d_Mo_range_19 ?_
      cases hf
      exact k_iret (pc := 20) d_Mo_range_20 rfl
    · refine k_ic_lt_f (pc := 10) (tgt := 19) w22 d_Mo_range_10 rfl ?_
      refine k_iload_n (pc := 13) rfl z_m2 d_Mo_range_13 ?_
      refine k_bipush (pc := 14) (zi_lit rfl) (by decide) d_Mo_range_14 ?_
      rcases z_it hf with ⟨w21, hf⟩ | ⟨w21, hf⟩
      · refine k_ic_le_t (pc := 16) (tgt := 21) w21 d_Mo_range_16 rfl ?_
        refine k_iconst (pc := 21) (zi_lit rfl) d_Mo_range_21 ?_
        refine k_istore_n (pc := 22) (L' := [(3, (0, 0)), (0, (2, ((a0 : Nat) : Int))), (1, (0, a1)), (2, (0, a2))]) rfl d_Mo_range_22 (Nat.le_of_ble_eq_true rfl) rfl ?_
        refine k_sub [1, 2, 3, 0] rfl ?_
        exact b_Mo_range_23 100000 a0 a1 a2 0 q20.2 _ hf
      · refine k_ic_le_f (pc := 16) (tgt := 21) w21 d_Mo_range_16 rfl ?_
        refine k_iconst (pc := 19) (zi_lit rfl) d_Mo_range_19 ?_
        cases hf
        exact k_iret (pc := 20) d_Mo_range_20 rfl
theorem t_Mo_range {a0 : Nat} {a1 : Int} {a2 : Int} {h : zH} {r : Int × zH} (hf : f_Mo_range a0 a1 a2 h = some r) : zMt m_Mo_range [(2, ((a0 : Nat) : Int)), (0, a1), (0, a2)] h (some (0, r.1), r.2) := zMt.of (by decide) (Nat.le_of_ble_eq_true rfl) (b_Mo_range_0 a0 a1 a2 h r hf)
