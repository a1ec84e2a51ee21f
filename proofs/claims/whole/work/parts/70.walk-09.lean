/-! The bytecode comes to what the functions answer; printed by wip/gen/gen.py -/
theorem b_Mo_include_0 (a0 : Nat) (a1 : Int) (a2 : Int) (h : zH) (r : Int × zH) (hf : f_Mo_include a0 a1 a2 h = some r) : zK m_Mo_include 0 [(0, (2, ((a0 : Nat) : Int))), (1, (0, a1)), (2, (0, a2))] [] h (some (0, r.1), r.2) := by
  unfold f_Mo_include at hf
  refine k_aload_n (pc := 0) rfl z_m0 d_Mo_include_0 ?_
  refine k_iload_n (pc := 1) rfl z_m1 d_Mo_include_1 ?_
  obtain ⟨n1, e_n1, hf⟩ := z_bd hf
  obtain ⟨q2, e_q2, hf⟩ := z_bd hf
  refine k_callVi (pc := 2) (as := [(0, a1)]) (rest := []) d_Mo_include_2 cw_Mo_include_261 rfl (Nat.le_of_ble_eq_true rfl) (z_ck_of e_n1) (t_Mo_isRangeNumber e_q2) ?_
  rcases z_it hf with ⟨w13, hf⟩ | ⟨w13, hf⟩
  · refine k_if_eq_t (pc := 5) (tgt := 16) w13 d_Mo_include_5 rfl ?_
    refine k_iconst (pc := 16) (zi_lit rfl) d_Mo_include_16 ?_
    cases hf
    exact k_zret (pc := 17) d_Mo_include_17 rfl (Or.inl rfl)
  · refine k_if_eq_f (pc := 5) (tgt := 16) w13 d_Mo_include_5 rfl ?_
    refine k_aload_n (pc := 8) rfl z_m0 d_Mo_include_8 ?_
    refine k_iload_n (pc := 9) rfl z_m2 d_Mo_include_9 ?_
    obtain ⟨n3, e_n3, hf⟩ := z_bd hf
    obtain ⟨q4, e_q4, hf⟩ := z_bd hf
    refine k_callVi (pc := 10) (as := [(0, a2)]) (rest := []) d_Mo_include_10 cw_Mo_include_261 rfl (Nat.le_of_ble_eq_true rfl) (z_ck_of e_n3) (t_Mo_isRangeNumber e_q4) ?_
    rcases z_it hf with ⟨w12, hf⟩ | ⟨w12, hf⟩
    · refine k_if_ne_f (pc := 13) (tgt := 18) w12 d_Mo_include_13 rfl ?_
      refine k_iconst (pc := 16) (zi_lit rfl) d_Mo_include_16 ?_
      cases hf
      exact k_zret (pc := 17) d_Mo_include_17 rfl (Or.inl rfl)
    · refine k_if_ne_t (pc := 13) (tgt := 18) w12 d_Mo_include_13 rfl ?_
      refine k_aload_n (pc := 18) rfl z_m0 d_Mo_include_18 ?_
      obtain ⟨v5, e_v5, hf⟩ := z_bd hf
      refine k_getR (pc := 19) d_Mo_include_19 fd_Mo_23 rfl e_v5 ?_
      refine k_iload_n (pc := 22) rfl z_m1 d_Mo_include_22 ?_
      obtain ⟨v6, e_v6, hf⟩ := z_bd hf
      refine k_iald (pc := 23) d_Mo_include_23 e_v6 ?_
      refine k_iload_n (pc := 24) rfl z_m2 d_Mo_include_24 ?_
      rcases z_it hf with ⟨w11, hf⟩ | ⟨w11, hf⟩
      · refine k_ic_ne_f (pc := 25) (tgt := 30) w11 d_Mo_include_25 rfl ?_
        refine k_iconst (pc := 28) (zi_lit rfl) d_Mo_include_28 ?_
        cases hf
        exact k_zret (pc := 29) d_Mo_include_29 rfl (Or.inl rfl)
      · refine k_ic_ne_t (pc := 25) (tgt := 30) w11 d_Mo_include_25 rfl ?_
        refine k_aload_n (pc := 30) rfl z_m0 d_Mo_include_30 ?_
        obtain ⟨v7, e_v7, hf⟩ := z_bd hf
        refine k_getR (pc := 31) d_Mo_include_31 fd_Mo_23 rfl e_v7 ?_
        refine k_iload_n (pc := 34) rfl z_m1 d_Mo_include_34 ?_
        refine k_iload_n (pc := 35) rfl z_m2 d_Mo_include_35 ?_
        obtain ⟨h8, e_h8, hf⟩ := z_bd hf
        refine k_iast (pc := 36) d_Mo_include_36 e_h8 ?_
        refine k_aload_n (pc := 37) rfl z_m0 d_Mo_include_37 ?_
        obtain ⟨n9, e_n9, hf⟩ := z_bd hf
        obtain ⟨h10, e_h10, hf⟩ := z_bd hf
        refine k_callVv (pc := 38) (as := []) (rest := []) d_Mo_include_38 cw_Mo_include_258 rfl (Nat.le_of_ble_eq_true rfl) (z_ck_of e_n9) (t_Mo_refreshAll e_h10) ?_
        refine k_iconst (pc := 41) (zi_lit rfl) d_Mo_include_41 ?_
        cases hf
        exact k_zret (pc := 42) d_Mo_include_42 rfl (Or.inr rfl)
theorem t_Mo_include {a0 : Nat} {a1 : Int} {a2 : Int} {h : zH} {r : Int × zH} (hf : f_Mo_include a0 a1 a2 h = some r) : zMt m_Mo_include [(2, ((a0 : Nat) : Int)), (0, a1), (0, a2)] h (some (0, r.1), r.2) := zMt.of (by decide) (Nat.le_of_ble_eq_true rfl) (b_Mo_include_0 a0 a1 a2 h r hf)
theorem b_Mo_theme_0 (a0 : Nat) (a1 : Int) (a2 : Int) (a3 : Int) (h : zH) (r : Int × zH) (hf : f_Mo_theme a0 a1 a2 a3 h = some r) : zK m_Mo_theme 0 [(0, (2, ((a0 : Nat) : Int))), (1, (0, a1)), (2, (0, a2)), (3, (0, a3))] [] h (some (0, r.1), r.2) := by
  unfold f_Mo_theme at hf
  refine k_iload_n (pc := 0) rfl z_m1 d_Mo_theme_0 ?_
  refine k_iconst (pc := 1) (zi_lit rfl) d_Mo_theme_1 ?_
  rcases z_it hf with ⟨w19, hf⟩ | ⟨w19, hf⟩
  · refine k_ic_lt_t (pc := 2) (tgt := 42) w19 d_Mo_theme_2 rfl ?_
    refine k_iconst (pc := 42) (zi_lit rfl) d_Mo_theme_42 ?_
    cases hf
    exact k_zret (pc := 43) d_Mo_theme_43 rfl (Or.inl rfl)
  · refine k_ic_lt_f (pc := 2) (tgt := 42) w19 d_Mo_theme_2 rfl ?_
    refine k_iload_n (pc := 5) rfl z_m1 d_Mo_theme_5 ?_
    refine k_bipush (pc := 6) (zi_lit rfl) (by decide) d_Mo_theme_6 ?_
    rcases z_it hf with ⟨w18, hf⟩ | ⟨w18, hf⟩
    · refine k_ic_gt_t (pc := 8) (tgt := 42) w18 d_Mo_theme_8 rfl ?_
      refine k_iconst (pc := 42) (zi_lit rfl) d_Mo_theme_42 ?_
      cases hf
      exact k_zret (pc := 43) d_Mo_theme_43 rfl (Or.inl rfl)
    · refine k_ic_gt_f (pc := 8) (tgt := 42) w18 d_Mo_theme_8 rfl ?_
      refine k_iload_n (pc := 11) rfl z_m2 d_Mo_theme_11 ?_
      rcases z_it hf with ⟨w17, hf⟩ | ⟨w17, hf⟩
      · refine k_if_lt_t (pc := 12) (tgt := 42) w17 d_Mo_theme_12 rfl ?_
        refine k_iconst (pc := 42) (zi_lit rfl) d_Mo_theme_42 ?_
        cases hf
        exact k_zret (pc := 43) d_Mo_theme_43 rfl (Or.inl rfl)
      · refine k_if_lt_f (pc := 12) (tgt := 42) w17 d_Mo_theme_12 rfl ?_
        refine k_iload_n (pc := 15) rfl z_m2 d_Mo_theme_15 ?_
        refine k_bipush (pc := 16) (zi_lit rfl) (by decide) d_Mo_theme_16 ?_
        rcases z_it hf with ⟨w16, hf⟩ | ⟨w16, hf⟩
        · refine k_ic_gt_t (pc := 18) (tgt := 42) w16 d_Mo_theme_18 rfl ?_
          refine k_iconst (pc := 42) (zi_lit rfl) d_Mo_theme_42 ?_
          cases hf
          exact k_zret (pc := 43) d_Mo_theme_43 rfl (Or.inl rfl)
        · refine k_ic_gt_f (pc := 18) (tgt := 42) w16 d_Mo_theme_18 rfl ?_
          refine k_iload_n (pc := 21) rfl z_m3 d_Mo_theme_21 ?_
          refine k_iconst (pc := 22) (zi_lit rfl) d_Mo_theme_22 ?_
          rcases z_it hf with ⟨w15, hf⟩ | ⟨w15, hf⟩
          · refine k_ic_lt_t (pc := 23) (tgt := 42) w15 d_Mo_theme_23 rfl ?_
            refine k_iconst (pc := 42) (zi_lit rfl) d_Mo_theme_42 ?_
            cases hf
            exact k_zret (pc := 43) d_Mo_theme_43 rfl (Or.inl rfl)
          · refine k_ic_lt_f (pc := 23) (tgt := 42) w15 d_Mo_theme_23 rfl ?_
            refine k_iload_n (pc := 26) rfl z_m3 d_Mo_theme_26 ?_
            refine k_sipush (pc := 27) (zi_lit rfl) (by decide) d_Mo_theme_27 ?_
            rcases z_it hf with ⟨w14, hf⟩ | ⟨w14, hf⟩
            · refine k_ic_gt_t (pc := 30) (tgt := 42) w14 d_Mo_theme_30 rfl ?_
              refine k_iconst (pc := 42) (zi_lit rfl) d_Mo_theme_42 ?_
              cases hf
              exact k_zret (pc := 43) d_Mo_theme_43 rfl (Or.inl rfl)
            · refine k_ic_gt_f (pc := 30) (tgt := 42) w14 d_Mo_theme_30 rfl ?_
              refine k_aload_n (pc := 33) rfl z_m0 d_Mo_theme_33 ?_
              obtain ⟨v1, e_v1, hf⟩ := z_bd hf
              refine k_getI (pc := 34) d_Mo_theme_34 fd_Mo_272 rfl e_v1 ?_
              refine k_bipush (pc := 37) (zi_lit rfl) (by decide) d_Mo_theme_37 ?_
              rcases z_it hf with ⟨w13, hf⟩ | ⟨w13, hf⟩
              · refine k_ic_ne_f (pc := 39) (tgt := 44) w13 d_Mo_theme_39 rfl ?_
                refine k_iconst (pc := 42) (zi_lit rfl) d_Mo_theme_42 ?_
                cases hf
                exact k_zret (pc := 43) d_Mo_theme_43 rfl (Or.inl rfl)
              · refine k_ic_ne_t (pc := 39) (tgt := 44) w13 d_Mo_theme_39 rfl ?_
                refine k_aload_n (pc := 44) rfl z_m0 d_Mo_theme_44 ?_
                obtain ⟨v2, e_v2, hf⟩ := z_bd hf
                refine k_getR (pc := 45) d_Mo_theme_45 fd_Mo_116 rfl e_v2 ?_
                refine k_aload_n (pc := 48) rfl z_m0 d_Mo_theme_48 ?_
                obtain ⟨v3, e_v3, hf⟩ := z_bd hf
                refine k_getI (pc := 49) d_Mo_theme_49 fd_Mo_272 rfl e_v3 ?_
                refine k_iload_n (pc := 52) rfl z_m1 d_Mo_theme_52 ?_
                obtain ⟨h4, e_h4, hf⟩ := z_bd hf
                refine k_iast (pc := 53) d_Mo_theme_53 e_h4 ?_
                refine k_aload_n (pc := 54) rfl z_m0 d_Mo_theme_54 ?_
                obtain ⟨v5, e_v5, hf⟩ := z_bd hf
                refine k_getR (pc := 55) d_Mo_theme_55 fd_Mo_119 rfl e_v5 ?_
                refine k_aload_n (pc := 58) rfl z_m0 d_Mo_theme_58 ?_
                obtain ⟨v6, e_v6, hf⟩ := z_bd hf
                refine k_getI (pc := 59) d_Mo_theme_59 fd_Mo_272 rfl e_v6 ?_
                refine k_iload_n (pc := 62) rfl z_m2 d_Mo_theme_62 ?_
                obtain ⟨h7, e_h7, hf⟩ := z_bd hf
                refine k_iast (pc := 63) d_Mo_theme_63 e_h7 ?_
                refine k_aload_n (pc := 64) rfl z_m0 d_Mo_theme_64 ?_
                obtain ⟨v8, e_v8, hf⟩ := z_bd hf
                refine k_getR (pc := 65) d_Mo_theme_65 fd_Mo_122 rfl e_v8 ?_
                refine k_aload_n (pc := 68) rfl z_m0 d_Mo_theme_68 ?_
                obtain ⟨v9, e_v9, hf⟩ := z_bd hf
                refine k_getI (pc := 69) d_Mo_theme_69 fd_Mo_272 rfl e_v9 ?_
                refine k_iload_n (pc := 72) rfl z_m3 d_Mo_theme_72 ?_
                obtain ⟨h10, e_h10, hf⟩ := z_bd hf
                refine k_iast (pc := 73) d_Mo_theme_73 e_h10 ?_
                refine k_aload_n (pc := 74) rfl z_m0 d_Mo_theme_74 ?_
                refine k_dup (pc := 75) (Or.inr rfl) d_Mo_theme_75 ?_
                obtain ⟨v11, e_v11, hf⟩ := z_bd hf
                refine k_getI (pc := 76) d_Mo_theme_76 fd_Mo_272 rfl e_v11 ?_
                refine k_iconst (pc := 79) (zi_lit rfl) d_Mo_theme_79 ?_
                refine k_iadd (pc := 80) d_Mo_theme_80 ?_
                obtain ⟨h12, e_h12, hf⟩ := z_bd hf
                refine k_putI (pc := 81) d_Mo_theme_81 fd_Mo_272 (fun q => by cases q) rfl e_h12 ?_
                refine k_iconst (pc := 84) (zi_lit rfl) d_Mo_theme_84 ?_
                cases hf
                exact k_zret (pc := 85) d_Mo_theme_85 rfl (Or.inr rfl)
theorem t_Mo_theme {a0 : Nat} {a1 : Int} {a2 : Int} {a3 : Int} {h : zH} {r : Int × zH} (hf : f_Mo_theme a0 a1 a2 a3 h = some r) : zMt m_Mo_theme [(2, ((a0 : Nat) : Int)), (0, a1), (0, a2), (0, a3)] h (some (0, r.1), r.2) := zMt.of (by decide) (Nat.le_of_ble_eq_true rfl) (b_Mo_theme_0 a0 a1 a2 a3 h r hf)
theorem b_Mo_put_72 : ∀ (n : Nat) (a0 : Nat) (a1 : Int) (a2 : Int) (h : zH) (r : Int × zH), f_Mo_put_72 n a0 a1 a2 h = some r → zK m_Mo_put 72 [(0, (2, ((a0 : Nat) : Int))), (1, (0, a1)), (2, (0, a2))] [] h (some (0, r.1), r.2) := by
  intro n
  induction n with
  | zero =>
    intro a0 a1 a2 h r hf
    cases hf
  | succ n ih =>
    intro a0 a1 a2 h r hf
    unfold f_Mo_put_72 at hf
    refine k_iload_n (pc := 72) rfl z_m2 d_Mo_put_72 ?_
    refine k_aload_n (pc := 73) rfl z_m0 d_Mo_put_73 ?_
    obtain ⟨v1, e_v1, hf⟩ := z_bd hf
    refine k_getI (pc := 74) d_Mo_put_74 fd_Mo_129 rfl e_v1 ?_
    rcases z_it hf with ⟨w9, hf⟩ | ⟨w9, hf⟩
    · refine k_ic_ge_t (pc := 77) (tgt := 103) w9 d_Mo_put_77 rfl ?_
      refine k_aload_n (pc := 103) rfl z_m0 d_Mo_put_103 ?_
      refine k_iconst (pc := 104) (zi_lit rfl) d_Mo_put_104 ?_
      obtain ⟨h2, e_h2, hf⟩ := z_bd hf
      refine k_putI (pc := 105) d_Mo_put_105 fd_Mo_129 (fun q => by cases q) rfl e_h2 ?_
      refine k_aload_n (pc := 108) rfl z_m0 d_Mo_put_108 ?_
      refine k_iload_n (pc := 109) rfl z_m1 d_Mo_put_109 ?_
      obtain ⟨n3, e_n3, hf⟩ := z_bd hf
      obtain ⟨q4, e_q4, hf⟩ := z_bd hf
      refine k_callVi (pc := 110) (as := [(0, a1)]) (rest := []) d_Mo_put_110 cw_Mo_put_275 rfl (Nat.le_of_ble_eq_true rfl) (z_ck_of e_n3) (t_Mo_refresh e_q4) ?_
      cases hf
      exact k_iret (pc := 113) d_Mo_put_113 rfl
    · refine k_ic_ge_f (pc := 77) (tgt := 103) w9 d_Mo_put_77 rfl ?_
      refine k_aload_n (pc := 80) rfl z_m0 d_Mo_put_80 ?_
      obtain ⟨v5, e_v5, hf⟩ := z_bd hf
      refine k_getR (pc := 81) d_Mo_put_81 fd_Mo_80 rfl e_v5 ?_
      refine k_bipush (pc := 84) (zi_lit rfl) (by decide) d_Mo_put_84 ?_
      refine k_iload_n (pc := 86) rfl z_m1 d_Mo_put_86 ?_
      refine k_imul (pc := 87) d_Mo_put_87 ?_
      refine k_iload_n (pc := 88) rfl z_m2 d_Mo_put_88 ?_
      refine k_iadd (pc := 89) d_Mo_put_89 ?_
      refine k_aload_n (pc := 90) rfl z_m0 d_Mo_put_90 ?_
      obtain ⟨v6, e_v6, hf⟩ := z_bd hf
      refine k_getR (pc := 91) d_Mo_put_91 fd_Mo_7 rfl e_v6 ?_
      refine k_iload_n (pc := 94) rfl z_m2 d_Mo_put_94 ?_
      obtain ⟨v7, e_v7, hf⟩ := z_bd hf
      refine k_iald (pc := 95) d_Mo_put_95 e_v7 ?_
      obtain ⟨h8, e_h8, hf⟩ := z_bd hf
      refine k_iast (pc := 96) d_Mo_put_96 e_h8 ?_
      refine k_iinc (pc := 97) (L' := [(2, (0, zw (a2 + 1))), (0, (2, ((a0 : Nat) : Int))), (1, (0, a1))]) z_m2 d_Mo_put_97 (Nat.le_of_ble_eq_true rfl) rfl ?_
      refine k_goto (pc := 100) (tgt := 72) d_Mo_put_100 rfl ?_
      refine k_sub [1, 2, 0] rfl ?_
      exact ih a0 a1 (zw (a2 + 1)) h8 _ hf
theorem b_Mo_put_60 (a0 : Nat) (a1 : Int) (h : zH) (r : Int × zH) (hf : f_Mo_put_60 a0 a1 h = some r) : zK m_Mo_put 60 [(0, (2, ((a0 : Nat) : Int))), (1, (0, a1))] [] h (some (0, r.1), r.2) := by
  unfold f_Mo_put_60 at hf
  refine k_aload_n (pc := 60) rfl z_m0 d_Mo_put_60 ?_
  obtain ⟨v10, e_v10, hf⟩ := z_bd hf
  refine k_getR (pc := 61) d_Mo_put_61 fd_Mo_77 rfl e_v10 ?_
  refine k_iload_n (pc := 64) rfl z_m1 d_Mo_put_64 ?_
  refine k_aload_n (pc := 65) rfl z_m0 d_Mo_put_65 ?_
  obtain ⟨v11, e_v11, hf⟩ := z_bd hf
  refine k_getI (pc := 66) d_Mo_put_66 fd_Mo_129 rfl e_v11 ?_
  obtain ⟨h12, e_h12, hf⟩ := z_bd hf
  refine k_iast (pc := 69) d_Mo_put_69 e_h12 ?_
  refine k_iconst (pc := 70) (zi_lit rfl) d_Mo_put_70 ?_
  refine k_istore_n (pc := 71) (L' := [(2, (0, 0)), (0, (2, ((a0 : Nat) : Int))), (1, (0, a1))]) rfl d_Mo_put_71 (Nat.le_of_ble_eq_true rfl) rfl ?_
  refine k_sub [1, 2, 0] rfl ?_
  exact b_Mo_put_72 100000 a0 a1 0 h12 _ hf
theorem b_Mo_put_0 (a0 : Nat) (a1 : Int) (h : zH) (r : Int × zH) (hf : f_Mo_put a0 a1 h = some r) : zK m_Mo_put 0 [(0, (2, ((a0 : Nat) : Int))), (1, (0, a1))] [] h (some (0, r.1), r.2) := by
  unfold f_Mo_put at hf
  refine k_iload_n (pc := 0) rfl z_m1 d_Mo_put_0 ?_
  rcases z_it hf with ⟨w24, hf⟩ | ⟨w24, hf⟩
  · refine k_if_lt_t (pc := 1) (tgt := 12) w24 d_Mo_put_1 rfl ?_
    refine k_iconst (pc := 12) (zi_lit rfl) d_Mo_put_12 ?_
    cases hf
    exact k_iret (pc := 13) d_Mo_put_13 rfl
  · refine k_if_lt_f (pc := 1) (tgt := 12) w24 d_Mo_put_1 rfl ?_
    refine k_iload_n (pc := 4) rfl z_m1 d_Mo_put_4 ?_
    refine k_aload_n (pc := 5) rfl z_m0 d_Mo_put_5 ?_
    obtain ⟨v13, e_v13, hf⟩ := z_bd hf
    refine k_getI (pc := 6) d_Mo_put_6 fd_Mo_242 rfl e_v13 ?_
    rcases z_it hf with ⟨w23, hf⟩ | ⟨w23, hf⟩
    · refine k_ic_le_t (pc := 9) (tgt := 14) w23 d_Mo_put_9 rfl ?_
      refine k_aload_n (pc := 14) rfl z_m0 d_Mo_put_14 ?_
      obtain ⟨v14, e_v14, hf⟩ := z_bd hf
      refine k_getI (pc := 15) d_Mo_put_15 fd_Mo_129 rfl e_v14 ?_
      refine k_bipush (pc := 18) (zi_lit rfl) (by decide) d_Mo_put_18 ?_
      rcases z_it hf with ⟨w22, hf⟩ | ⟨w22, hf⟩
      · refine k_ic_le_t (pc := 20) (tgt := 26) w22 d_Mo_put_20 rfl ?_
        refine k_iload_n (pc := 26) rfl z_m1 d_Mo_put_26 ?_
        refine k_bipush (pc := 27) (zi_lit rfl) (by decide) d_Mo_put_27 ?_
        rcases z_it hf with ⟨w21, hf⟩ | ⟨w21, hf⟩
        · refine k_ic_ne_f (pc := 29) (tgt := 35) w21 d_Mo_put_29 rfl ?_
          refine k_bipush (pc := 32) (zi_lit rfl) (by decide) d_Mo_put_32 ?_
          cases hf
          exact k_iret (pc := 34) d_Mo_put_34 rfl
        · refine k_ic_ne_t (pc := 29) (tgt := 35) w21 d_Mo_put_29 rfl ?_
          refine k_iload_n (pc := 35) rfl z_m1 d_Mo_put_35 ?_
          refine k_aload_n (pc := 36) rfl z_m0 d_Mo_put_36 ?_
          obtain ⟨v15, e_v15, hf⟩ := z_bd hf
          refine k_getI (pc := 37) d_Mo_put_37 fd_Mo_242 rfl e_v15 ?_
          rcases z_it hf with ⟨w20, hf⟩ | ⟨w20, hf⟩
          · refine k_ic_ne_f (pc := 40) (tgt := 60) w20 d_Mo_put_40 rfl ?_
            refine k_aload_n (pc := 43) rfl z_m0 d_Mo_put_43 ?_
            refine k_dup (pc := 44) (Or.inr rfl) d_Mo_put_44 ?_
            obtain ⟨v16, e_v16, hf⟩ := z_bd hf
            refine k_getI (pc := 45) d_Mo_put_45 fd_Mo_242 rfl e_v16 ?_
            refine k_iconst (pc := 48) (zi_lit rfl) d_Mo_put_48 ?_
            refine k_iadd (pc := 49) d_Mo_put_49 ?_
            obtain ⟨h17, e_h17, hf⟩ := z_bd hf
            refine k_putI (pc := 50) d_Mo_put_50 fd_Mo_242 (fun q => by cases q) rfl e_h17 ?_
            refine k_aload_n (pc := 53) rfl z_m0 d_Mo_put_53 ?_
            obtain ⟨v18, e_v18, hf⟩ := z_bd hf
            refine k_getR (pc := 54) d_Mo_put_54 fd_Mo_98 rfl e_v18 ?_
            refine k_iload_n (pc := 57) rfl z_m1 d_Mo_put_57 ?_
            refine k_iconst (pc := 58) (zi_lit rfl) d_Mo_put_58 ?_
            obtain ⟨h19, e_h19, hf⟩ := z_bd hf
            refine k_iast (pc := 59) d_Mo_put_59 e_h19 ?_
            exact b_Mo_put_60 a0 a1 h19 _ hf
          · refine k_ic_ne_t (pc := 40) (tgt := 60) w20 d_Mo_put_40 rfl ?_
            exact b_Mo_put_60 a0 a1 h _ hf
      · refine k_ic_le_f (pc := 20) (tgt := 26) w22 d_Mo_put_20 rfl ?_
        refine k_bipush (pc := 23) (zi_lit rfl) (by decide) d_Mo_put_23 ?_
        cases hf
        exact k_iret (pc := 25) d_Mo_put_25 rfl
    · refine k_ic_le_f (pc := 9) (tgt := 14) w23 d_Mo_put_9 rfl ?_
      refine k_iconst (pc := 12) (zi_lit rfl) d_Mo_put_12 ?_
      cases hf
      exact k_iret (pc := 13) d_Mo_put_13 rfl
theorem t_Mo_put {a0 : Nat} {a1 : Int} {h : zH} {r : Int × zH} (hf : f_Mo_put a0 a1 h = some r) : zMt m_Mo_put [(2, ((a0 : Nat) : Int)), (0, a1)] h (some (0, r.1), r.2) := zMt.of (by decide) (Nat.le_of_ble_eq_true rfl) (b_Mo_put_0 a0 a1 h r hf)
theorem b_Mo_drop_149 (c26 : Nat → Int → Int → zH → Option (Int × zH)) (k26 : ∀ (x0 : Nat) (x1 : Int) (x2 : Int) (g : zH) (r : Int × zH), c26 x0 x1 x2 g = some r → zK m_Mo_drop 26 [(0, (2, ((x0 : Nat) : Int))), (1, (0, x1)), (2, (0, x2))] [] g (some (0, r.1), r.2)) : ∀ (n : Nat) (a0 : Nat) (a1 : Int) (a2 : Int) (a3 : Int) (h : zH) (r : Int × zH), f_Mo_drop_149 c26 n a0 a1 a2 a3 h = some r → zK m_Mo_drop 149 [(0, (2, ((a0 : Nat) : Int))), (1, (0, a1)), (2, (0, a2)), (3, (0, a3))] [] h (some (0, r.1), r.2) := by
  intro n
  induction n with
  | zero =>
    intro a0 a1 a2 a3 h r hf
    cases hf
  | succ n ih =>
    intro a0 a1 a2 a3 h r hf
    unfold f_Mo_drop_149 at hf
    refine k_iload_n (pc := 149) rfl z_m3 d_Mo_drop_149 ?_
    refine k_sipush (pc := 150) (zi_lit rfl) (by decide) d_Mo_drop_150 ?_
    refine k_iload_n (pc := 153) rfl z_m2 d_Mo_drop_153 ?_
    refine k_imul (pc := 154) d_Mo_drop_154 ?_
    refine k_sipush (pc := 155) (zi_lit rfl) (by decide) d_Mo_drop_155 ?_
    refine k_iadd (pc := 158) d_Mo_drop_158 ?_
    rcases z_it hf with ⟨w7, hf⟩ | ⟨w7, hf⟩
    · refine k_ic_ge_t (pc := 159) (tgt := 184) w7 d_Mo_drop_159 rfl ?_
      refine k_aload_n (pc := 184) rfl z_m0 d_Mo_drop_184 ?_
      refine k_iload_n (pc := 185) rfl z_m2 d_Mo_drop_185 ?_
      refine k_iconst (pc := 186) (zi_lit rfl) d_Mo_drop_186 ?_
      refine k_iadd (pc := 187) d_Mo_drop_187 ?_
      refine k_iload_n (pc := 188) rfl z_m2 d_Mo_drop_188 ?_
      obtain ⟨n1, e_n1, hf⟩ := z_bd hf
      obtain ⟨h2, e_h2, hf⟩ := z_bd hf
      refine k_callVv (pc := 189) (as := [(0, zw (a2 + 1)), (0, a2)]) (rest := []) d_Mo_drop_189 cw_Mo_drop_200 rfl (Nat.le_of_ble_eq_true rfl) (z_ck_of e_n1) (t_Mo_copyState e_h2) ?_
      refine k_iinc (pc := 192) (L' := [(2, (0, zw (a2 + 1))), (0, (2, ((a0 : Nat) : Int))), (1, (0, a1)), (3, (0, a3))]) z_m2 d_Mo_drop_192 (Nat.le_of_ble_eq_true rfl) rfl ?_
      refine k_goto (pc := 195) (tgt := 26) d_Mo_drop_195 rfl ?_
      refine k_sub [1, 2, 0] rfl ?_
      exact k26 a0 a1 (zw (a2 + 1)) h2 _ hf
    · refine k_ic_ge_f (pc := 159) (tgt := 184) w7 d_Mo_drop_159 rfl ?_
      refine k_aload_n (pc := 162) rfl z_m0 d_Mo_drop_162 ?_
      obtain ⟨v3, e_v3, hf⟩ := z_bd hf
      refine k_getR (pc := 163) d_Mo_drop_163 fd_Mo_95 rfl e_v3 ?_
      refine k_iload_n (pc := 166) rfl z_m3 d_Mo_drop_166 ?_
      refine k_aload_n (pc := 167) rfl z_m0 d_Mo_drop_167 ?_
      obtain ⟨v4, e_v4, hf⟩ := z_bd hf
      refine k_getR (pc := 168) d_Mo_drop_168 fd_Mo_95 rfl e_v4 ?_
      refine k_iload_n (pc := 171) rfl z_m3 d_Mo_drop_171 ?_
      refine k_sipush (pc := 172) (zi_lit rfl) (by decide) d_Mo_drop_172 ?_
      refine k_iadd (pc := 175) d_Mo_drop_175 ?_
      obtain ⟨v5, e_v5, hf⟩ := z_bd hf
      refine k_iald (pc := 176) d_Mo_drop_176 e_v5 ?_
      obtain ⟨h6, e_h6, hf⟩ := z_bd hf
      refine k_iast (pc := 177) d_Mo_drop_177 e_h6 ?_
      refine k_iinc (pc := 178) (L' := [(3, (0, zw (a3 + 1))), (0, (2, ((a0 : Nat) : Int))), (1, (0, a1)), (2, (0, a2))]) z_m3 d_Mo_drop_178 (Nat.le_of_ble_eq_true rfl) rfl ?_
      refine k_goto (pc := 181) (tgt := 149) d_Mo_drop_181 rfl ?_
      refine k_sub [1, 2, 3, 0] rfl ?_
      exact ih a0 a1 a2 (zw (a3 + 1)) h6 _ hf
theorem b_Mo_drop_81 (c26 : Nat → Int → Int → zH → Option (Int × zH)) (k26 : ∀ (x0 : Nat) (x1 : Int) (x2 : Int) (g : zH) (r : Int × zH), c26 x0 x1 x2 g = some r → zK m_Mo_drop 26 [(0, (2, ((x0 : Nat) : Int))), (1, (0, x1)), (2, (0, x2))] [] g (some (0, r.1), r.2)) : ∀ (n : Nat) (a0 : Nat) (a1 : Int) (a2 : Int) (a3 : Int) (h : zH) (r : Int × zH), f_Mo_drop_81 c26 n a0 a1 a2 a3 h = some r → zK m_Mo_drop 81 [(0, (2, ((a0 : Nat) : Int))), (1, (0, a1)), (2, (0, a2)), (3, (0, a3))] [] h (some (0, r.1), r.2) := by
  intro n
  induction n with
  | zero =>
    intro a0 a1 a2 a3 h r hf
    cases hf
  | succ n ih =>
    intro a0 a1 a2 a3 h r hf
    unfold f_Mo_drop_81 at hf
    refine k_iload_n (pc := 81) rfl z_m3 d_Mo_drop_81 ?_
    refine k_bipush (pc := 82) (zi_lit rfl) (by decide) d_Mo_drop_82 ?_
    refine k_iload_n (pc := 84) rfl z_m2 d_Mo_drop_84 ?_
    refine k_imul (pc := 85) d_Mo_drop_85 ?_
    refine k_bipush (pc := 86) (zi_lit rfl) (by decide) d_Mo_drop_86 ?_
    refine k_iadd (pc := 88) d_Mo_drop_88 ?_
    rcases z_it hf with ⟨w20, hf⟩ | ⟨w20, hf⟩
    · refine k_ic_ge_t (pc := 89) (tgt := 143) w20 d_Mo_drop_89 rfl ?_
      refine k_sipush (pc := 143) (zi_lit rfl) (by decide) d_Mo_drop_143 ?_
      refine k_iload_n (pc := 146) rfl z_m2 d_Mo_drop_146 ?_
      refine k_imul (pc := 147) d_Mo_drop_147 ?_
      refine k_istore_n (pc := 148) (L' := [(3, (0, zw (144 * a2))), (0, (2, ((a0 : Nat) : Int))), (1, (0, a1)), (2, (0, a2))]) rfl d_Mo_drop_148 (Nat.le_of_ble_eq_true rfl) rfl ?_
      refine k_sub [1, 2, 3, 0] rfl ?_
      exact b_Mo_drop_149 c26 k26 100000 a0 a1 a2 (zw (144 * a2)) h _ hf
    · refine k_ic_ge_f (pc := 89) (tgt := 143) w20 d_Mo_drop_89 rfl ?_
      refine k_aload_n (pc := 92) rfl z_m0 d_Mo_drop_92 ?_
      obtain ⟨v8, e_v8, hf⟩ := z_bd hf
      refine k_getR (pc := 93) d_Mo_drop_93 fd_Mo_80 rfl e_v8 ?_
      refine k_iload_n (pc := 96) rfl z_m3 d_Mo_drop_96 ?_
      refine k_aload_n (pc := 97) rfl z_m0 d_Mo_drop_97 ?_
      obtain ⟨v9, e_v9, hf⟩ := z_bd hf
      refine k_getR (pc := 98) d_Mo_drop_98 fd_Mo_80 rfl e_v9 ?_
      refine k_iload_n (pc := 101) rfl z_m3 d_Mo_drop_101 ?_
      refine k_bipush (pc := 102) (zi_lit rfl) (by decide) d_Mo_drop_102 ?_
      refine k_iadd (pc := 104) d_Mo_drop_104 ?_
      obtain ⟨v10, e_v10, hf⟩ := z_bd hf
      refine k_iald (pc := 105) d_Mo_drop_105 e_v10 ?_
      obtain ⟨h11, e_h11, hf⟩ := z_bd hf
      refine k_iast (pc := 106) d_Mo_drop_106 e_h11 ?_
      refine k_aload_n (pc := 107) rfl z_m0 d_Mo_drop_107 ?_
      obtain ⟨v12, e_v12, hf⟩ := z_bd hf
      refine k_getR (pc := 108) d_Mo_drop_108 fd_Mo_89 rfl e_v12 ?_
      refine k_iload_n (pc := 111) rfl z_m3 d_Mo_drop_111 ?_
      refine k_aload_n (pc := 112) rfl z_m0 d_Mo_drop_112 ?_
      obtain ⟨v13, e_v13, hf⟩ := z_bd hf
      refine k_getR (pc := 113) d_Mo_drop_113 fd_Mo_89 rfl e_v13 ?_
      refine k_iload_n (pc := 116) rfl z_m3 d_Mo_drop_116 ?_
      refine k_bipush (pc := 117) (zi_lit rfl) (by decide) d_Mo_drop_117 ?_
      refine k_iadd (pc := 119) d_Mo_drop_119 ?_
      obtain ⟨v14, e_v14, hf⟩ := z_bd hf
      refine k_iald (pc := 120) d_Mo_drop_120 e_v14 ?_
      obtain ⟨h15, e_h15, hf⟩ := z_bd hf
      refine k_iast (pc := 121) d_Mo_drop_121 e_h15 ?_
      refine k_aload_n (pc := 122) rfl z_m0 d_Mo_drop_122 ?_
      obtain ⟨v16, e_v16, hf⟩ := z_bd hf
      refine k_getR (pc := 123) d_Mo_drop_123 fd_Mo_92 rfl e_v16 ?_
      refine k_iload_n (pc := 126) rfl z_m3 d_Mo_drop_126 ?_
      refine k_aload_n (pc := 127) rfl z_m0 d_Mo_drop_127 ?_
      obtain ⟨v17, e_v17, hf⟩ := z_bd hf
      refine k_getR (pc := 128) d_Mo_drop_128 fd_Mo_92 rfl e_v17 ?_
      refine k_iload_n (pc := 131) rfl z_m3 d_Mo_drop_131 ?_
      refine k_bipush (pc := 132) (zi_lit rfl) (by decide) d_Mo_drop_132 ?_
      refine k_iadd (pc := 134) d_Mo_drop_134 ?_
      obtain ⟨v18, e_v18, hf⟩ := z_bd hf
      refine k_iald (pc := 135) d_Mo_drop_135 e_v18 ?_
      obtain ⟨h19, e_h19, hf⟩ := z_bd hf
      refine k_iast (pc := 136) d_Mo_drop_136 e_h19 ?_
      refine k_iinc (pc := 137) (L' := [(3, (0, zw (a3 + 1))), (0, (2, ((a0 : Nat) : Int))), (1, (0, a1)), (2, (0, a2))]) z_m3 d_Mo_drop_137 (Nat.le_of_ble_eq_true rfl) rfl ?_
      refine k_goto (pc := 140) (tgt := 81) d_Mo_drop_140 rfl ?_
      refine k_sub [1, 2, 3, 0] rfl ?_
      exact ih a0 a1 a2 (zw (a3 + 1)) h19 _ hf
theorem b_Mo_drop_26 : ∀ (n : Nat) (a0 : Nat) (a1 : Int) (a2 : Int) (h : zH) (r : Int × zH), f_Mo_drop_26 n a0 a1 a2 h = some r → zK m_Mo_drop 26 [(0, (2, ((a0 : Nat) : Int))), (1, (0, a1)), (2, (0, a2))] [] h (some (0, r.1), r.2) := by
  intro n
  induction n with
  | zero =>
    intro a0 a1 a2 h r hf
    cases hf
  | succ n ih =>
    intro a0 a1 a2 h r hf
    unfold f_Mo_drop_26 at hf
    refine k_iload_n (pc := 26) rfl z_m2 d_Mo_drop_26 ?_
    refine k_aload_n (pc := 27) rfl z_m0 d_Mo_drop_27 ?_
    obtain ⟨v21, e_v21, hf⟩ := z_bd hf
    refine k_getI (pc := 28) d_Mo_drop_28 fd_Mo_242 rfl e_v21 ?_
    rcases z_it hf with ⟨w36, hf⟩ | ⟨w36, hf⟩
    · refine k_ic_ge_t (pc := 31) (tgt := 198) w36 d_Mo_drop_31 rfl ?_
      refine k_aload_n (pc := 198) rfl z_m0 d_Mo_drop_198 ?_
      refine k_iload_n (pc := 199) rfl z_m1 d_Mo_drop_199 ?_
      obtain ⟨n22, e_n22, hf⟩ := z_bd hf
      obtain ⟨q23, e_q23, hf⟩ := z_bd hf
      refine k_callVi (pc := 200) (as := [(0, a1)]) (rest := []) d_Mo_drop_200 cw_Mo_drop_275 rfl (Nat.le_of_ble_eq_true rfl) (z_ck_of e_n22) (t_Mo_refresh e_q23) ?_
      cases hf
      exact k_iret (pc := 203) d_Mo_drop_203 rfl
    · refine k_ic_ge_f (pc := 31) (tgt := 198) w36 d_Mo_drop_31 rfl ?_
      refine k_aload_n (pc := 34) rfl z_m0 d_Mo_drop_34 ?_
      obtain ⟨v24, e_v24, hf⟩ := z_bd hf
      refine k_getR (pc := 35) d_Mo_drop_35 fd_Mo_77 rfl e_v24 ?_
      refine k_iload_n (pc := 38) rfl z_m2 d_Mo_drop_38 ?_
      refine k_aload_n (pc := 39) rfl z_m0 d_Mo_drop_39 ?_
      obtain ⟨v25, e_v25, hf⟩ := z_bd hf
      refine k_getR (pc := 40) d_Mo_drop_40 fd_Mo_77 rfl e_v25 ?_
      refine k_iload_n (pc := 43) rfl z_m2 d_Mo_drop_43 ?_
      refine k_iconst (pc := 44) (zi_lit rfl) d_Mo_drop_44 ?_
      refine k_iadd (pc := 45) d_Mo_drop_45 ?_
      obtain ⟨v26, e_v26, hf⟩ := z_bd hf
      refine k_iald (pc := 46) d_Mo_drop_46 e_v26 ?_
      obtain ⟨h27, e_h27, hf⟩ := z_bd hf
      refine k_iast (pc := 47) d_Mo_drop_47 e_h27 ?_
      refine k_aload_n (pc := 48) rfl z_m0 d_Mo_drop_48 ?_
      obtain ⟨v28, e_v28, hf⟩ := z_bd hf
      refine k_getR (pc := 49) d_Mo_drop_49 fd_Mo_83 rfl e_v28 ?_
      refine k_iload_n (pc := 52) rfl z_m2 d_Mo_drop_52 ?_
      refine k_aload_n (pc := 53) rfl z_m0 d_Mo_drop_53 ?_
      obtain ⟨v29, e_v29, hf⟩ := z_bd hf
      refine k_getR (pc := 54) d_Mo_drop_54 fd_Mo_83 rfl e_v29 ?_
      refine k_iload_n (pc := 57) rfl z_m2 d_Mo_drop_57 ?_
      refine k_iconst (pc := 58) (zi_lit rfl) d_Mo_drop_58 ?_
      refine k_iadd (pc := 59) d_Mo_drop_59 ?_
      obtain ⟨v30, e_v30, hf⟩ := z_bd hf
      refine k_zald (pc := 60) d_Mo_drop_60 e_v30 ?_
      obtain ⟨h31, e_h31, hf⟩ := z_bd hf
      refine k_zast (pc := 61) d_Mo_drop_61 e_h31 ?_
      refine k_aload_n (pc := 62) rfl z_m0 d_Mo_drop_62 ?_
      obtain ⟨v32, e_v32, hf⟩ := z_bd hf
      refine k_getR (pc := 63) d_Mo_drop_63 fd_Mo_86 rfl e_v32 ?_
      refine k_iload_n (pc := 66) rfl z_m2 d_Mo_drop_66 ?_
      refine k_aload_n (pc := 67) rfl z_m0 d_Mo_drop_67 ?_
      obtain ⟨v33, e_v33, hf⟩ := z_bd hf
      refine k_getR (pc := 68) d_Mo_drop_68 fd_Mo_86 rfl e_v33 ?_
      refine k_iload_n (pc := 71) rfl z_m2 d_Mo_drop_71 ?_
      refine k_iconst (pc := 72) (zi_lit rfl) d_Mo_drop_72 ?_
      refine k_iadd (pc := 73) d_Mo_drop_73 ?_
      obtain ⟨v34, e_v34, hf⟩ := z_bd hf
      refine k_iald (pc := 74) d_Mo_drop_74 e_v34 ?_
      obtain ⟨h35, e_h35, hf⟩ := z_bd hf
      refine k_iast (pc := 75) d_Mo_drop_75 e_h35 ?_
      refine k_bipush (pc := 76) (zi_lit rfl) (by decide) d_Mo_drop_76 ?_
      refine k_iload_n (pc := 78) rfl z_m2 d_Mo_drop_78 ?_
      refine k_imul (pc := 79) d_Mo_drop_79 ?_
      refine k_istore_n (pc := 80) (L' := [(3, (0, zw (24 * a2))), (0, (2, ((a0 : Nat) : Int))), (1, (0, a1)), (2, (0, a2))]) rfl d_Mo_drop_80 (Nat.le_of_ble_eq_true rfl) rfl ?_
      refine k_sub [1, 2, 3, 0] rfl ?_
      exact b_Mo_drop_81 (f_Mo_drop_26 n) ih 100000 a0 a1 a2 (zw (24 * a2)) h35 _ hf
theorem b_Mo_drop_0 (a0 : Nat) (a1 : Int) (h : zH) (r : Int × zH) (hf : f_Mo_drop a0 a1 h = some r) : zK m_Mo_drop 0 [(0, (2, ((a0 : Nat) : Int))), (1, (0, a1))] [] h (some (0, r.1), r.2) := by
  unfold f_Mo_drop at hf
  refine k_iload_n (pc := 0) rfl z_m1 d_Mo_drop_0 ?_
  rcases z_it hf with ⟨w41, hf⟩ | ⟨w41, hf⟩
  · refine k_if_lt_t (pc := 1) (tgt := 12) w41 d_Mo_drop_1 rfl ?_
    refine k_iconst (pc := 12) (zi_lit rfl) d_Mo_drop_12 ?_
    cases hf
    exact k_iret (pc := 13) d_Mo_drop_13 rfl
  · refine k_if_lt_f (pc := 1) (tgt := 12) w41 d_Mo_drop_1 rfl ?_
    refine k_iload_n (pc := 4) rfl z_m1 d_Mo_drop_4 ?_
    refine k_aload_n (pc := 5) rfl z_m0 d_Mo_drop_5 ?_
    obtain ⟨v37, e_v37, hf⟩ := z_bd hf
    refine k_getI (pc := 6) d_Mo_drop_6 fd_Mo_242 rfl e_v37 ?_
    rcases z_it hf with ⟨w40, hf⟩ | ⟨w40, hf⟩
    · refine k_ic_lt_t (pc := 9) (tgt := 14) w40 d_Mo_drop_9 rfl ?_
      refine k_aload_n (pc := 14) rfl z_m0 d_Mo_drop_14 ?_
      refine k_dup (pc := 15) (Or.inr rfl) d_Mo_drop_15 ?_
      obtain ⟨v38, e_v38, hf⟩ := z_bd hf
      refine k_getI (pc := 16) d_Mo_drop_16 fd_Mo_242 rfl e_v38 ?_
      refine k_iconst (pc := 19) (zi_lit rfl) d_Mo_drop_19 ?_
      refine k_isub (pc := 20) d_Mo_drop_20 ?_
      obtain ⟨h39, e_h39, hf⟩ := z_bd hf
      refine k_putI (pc := 21) d_Mo_drop_21 fd_Mo_242 (fun q => by cases q) rfl e_h39 ?_
      refine k_iload_n (pc := 24) rfl z_m1 d_Mo_drop_24 ?_
      refine k_istore_n (pc := 25) (L' := [(2, (0, a1)), (0, (2, ((a0 : Nat) : Int))), (1, (0, a1))]) rfl d_Mo_drop_25 (Nat.le_of_ble_eq_true rfl) rfl ?_
      refine k_sub [1, 2, 0] rfl ?_
      exact b_Mo_drop_26 100000 a0 a1 a1 h39 _ hf
    · refine k_ic_lt_f (pc := 9) (tgt := 14) w40 d_Mo_drop_9 rfl ?_
      refine k_iconst (pc := 12) (zi_lit rfl) d_Mo_drop_12 ?_
      cases hf
      exact k_iret (pc := 13) d_Mo_drop_13 rfl
theorem t_Mo_drop {a0 : Nat} {a1 : Int} {h : zH} {r : Int × zH} (hf : f_Mo_drop a0 a1 h = some r) : zMt m_Mo_drop [(2, ((a0 : Nat) : Int)), (0, a1)] h (some (0, r.1), r.2) := zMt.of (by decide) (Nat.le_of_ble_eq_true rfl) (b_Mo_drop_0 a0 a1 h r hf)
theorem b_Mo_isLine_0 (a0 : Nat) (a1 : Int) (h : zH) (r : Int × zH) (hf : f_Mo_isLine a0 a1 h = some r) : zK m_Mo_isLine 0 [(0, (2, ((a0 : Nat) : Int))), (1, (0, a1))] [] h (some (0, r.1), r.2) := by
  unfold f_Mo_isLine at hf
  refine k_iload_n (pc := 0) rfl z_m1 d_Mo_isLine_0 ?_
  rcases z_it hf with ⟨w3, hf⟩ | ⟨w3, hf⟩
  · refine k_if_lt_t (pc := 1) (tgt := 16) w3 d_Mo_isLine_1 rfl ?_
    refine k_iconst (pc := 16) (zi_lit rfl) d_Mo_isLine_16 ?_
    cases hf
    exact k_zret (pc := 17) d_Mo_isLine_17 rfl (Or.inl rfl)
  · refine k_if_lt_f (pc := 1) (tgt := 16) w3 d_Mo_isLine_1 rfl ?_
    refine k_iload_n (pc := 4) rfl z_m1 d_Mo_isLine_4 ?_
    refine k_aload_n (pc := 5) rfl z_m0 d_Mo_isLine_5 ?_
    obtain ⟨v1, e_v1, hf⟩ := z_bd hf
    refine k_getI (pc := 6) d_Mo_isLine_6 fd_Mo_242 rfl e_v1 ?_
    rcases z_it hf with ⟨w2, hf⟩ | ⟨w2, hf⟩
    · refine k_ic_ge_t (pc := 9) (tgt := 16) w2 d_Mo_isLine_9 rfl ?_
      refine k_iconst (pc := 16) (zi_lit rfl) d_Mo_isLine_16 ?_
      cases hf
      exact k_zret (pc := 17) d_Mo_isLine_17 rfl (Or.inl rfl)
    · refine k_ic_ge_f (pc := 9) (tgt := 16) w2 d_Mo_isLine_9 rfl ?_
      refine k_iconst (pc := 12) (zi_lit rfl) d_Mo_isLine_12 ?_
      refine k_goto (pc := 13) (tgt := 17) d_Mo_isLine_13 rfl ?_
      cases hf
      exact k_zret (pc := 17) d_Mo_isLine_17 rfl (Or.inr rfl)
theorem t_Mo_isLine {a0 : Nat} {a1 : Int} {h : zH} {r : Int × zH} (hf : f_Mo_isLine a0 a1 h = some r) : zMt m_Mo_isLine [(2, ((a0 : Nat) : Int)), (0, a1)] h (some (0, r.1), r.2) := zMt.of (by decide) (Nat.le_of_ble_eq_true rfl) (b_Mo_isLine_0 a0 a1 h r hf)
theorem b_Mo_lines_0 (a0 : Nat) (h : zH) (r : Int × zH) (hf : f_Mo_lines a0 h = some r) : zK m_Mo_lines 0 [(0, (2, ((a0 : Nat) : Int)))] [] h (some (0, r.1), r.2) := by
  unfold f_Mo_lines at hf
  refine k_aload_n (pc := 0) rfl z_m0 d_Mo_lines_0 ?_
  obtain ⟨v1, e_v1, hf⟩ := z_bd hf
  refine k_getI (pc := 1) d_Mo_lines_1 fd_Mo_242 rfl e_v1 ?_
  cases hf
  exact k_iret (pc := 4) d_Mo_lines_4 rfl
theorem t_Mo_lines {a0 : Nat} {h : zH} {r : Int × zH} (hf : f_Mo_lines a0 h = some r) : zMt m_Mo_lines [(2, ((a0 : Nat) : Int))] h (some (0, r.1), r.2) := zMt.of (by decide) (Nat.le_of_ble_eq_true rfl) (b_Mo_lines_0 a0 h r hf)
theorem b_Mo_passes_0 (a0 : Nat) (h : zH) (r : Int × zH) (hf : f_Mo_passes a0 h = some r) : zK m_Mo_passes 0 [(0, (2, ((a0 : Nat) : Int)))] [] h (some (0, r.1), r.2) := by
  unfold f_Mo_passes at hf
  refine k_aload_n (pc := 0) rfl z_m0 d_Mo_passes_0 ?_
  obtain ⟨v1, e_v1, hf⟩ := z_bd hf
  refine k_getI (pc := 1) d_Mo_passes_1 fd_Mo_225 rfl e_v1 ?_
  cases hf
  exact k_iret (pc := 4) d_Mo_passes_4 rfl
theorem t_Mo_passes {a0 : Nat} {h : zH} {r : Int × zH} (hf : f_Mo_passes a0 h = some r) : zMt m_Mo_passes [(2, ((a0 : Nat) : Int))] h (some (0, r.1), r.2) := zMt.of (by decide) (Nat.le_of_ble_eq_true rfl) (b_Mo_passes_0 a0 h r hf)
theorem b_Mo_length_0 (a0 : Nat) (a1 : Int) (h : zH) (r : Int × zH) (hf : f_Mo_length a0 a1 h = some r) : zK m_Mo_length 0 [(0, (2, ((a0 : Nat) : Int))), (1, (0, a1))] [] h (some (0, r.1), r.2) := by
  unfold f_Mo_length at hf
  refine k_aload_n (pc := 0) rfl z_m0 d_Mo_length_0 ?_
  refine k_iload_n (pc := 1) rfl z_m1 d_Mo_length_1 ?_
  obtain ⟨n1, e_n1, hf⟩ := z_bd hf
  obtain ⟨q2, e_q2, hf⟩ := z_bd hf
  refine k_callVi (pc := 2) (as := [(0, a1)]) (rest := []) d_Mo_length_2 cw_Mo_length_279 rfl (Nat.le_of_ble_eq_true rfl) (z_ck_of e_n1) (t_Mo_isLine e_q2) ?_
  rcases z_it hf with ⟨w5, hf⟩ | ⟨w5, hf⟩
  · refine k_if_eq_t (pc := 5) (tgt := 17) w5 d_Mo_length_5 rfl ?_
    refine k_iconst (pc := 17) (zi_lit rfl) d_Mo_length_17 ?_
    cases hf
    exact k_iret (pc := 18) d_Mo_length_18 rfl
  · refine k_if_eq_f (pc := 5) (tgt := 17) w5 d_Mo_length_5 rfl ?_
    refine k_aload_n (pc := 8) rfl z_m0 d_Mo_length_8 ?_
    obtain ⟨v3, e_v3, hf⟩ := z_bd hf
    refine k_getR (pc := 9) d_Mo_length_9 fd_Mo_77 rfl e_v3 ?_
    refine k_iload_n (pc := 12) rfl z_m1 d_Mo_length_12 ?_
    obtain ⟨v4, e_v4, hf⟩ := z_bd hf
    refine k_iald (pc := 13) d_Mo_length_13 e_v4 ?_
    refine k_goto (pc := 14) (tgt := 18) d_Mo_length_14 rfl ?_
    cases hf
    exact k_iret (pc := 18) d_Mo_length_18 rfl
theorem t_Mo_length {a0 : Nat} {a1 : Int} {h : zH} {r : Int × zH} (hf : f_Mo_length a0 a1 h = some r) : zMt m_Mo_length [(2, ((a0 : Nat) : Int)), (0, a1)] h (some (0, r.1), r.2) := zMt.of (by decide) (Nat.le_of_ble_eq_true rfl) (b_Mo_length_0 a0 a1 h r hf)
theorem b_Mo_tokens_0 (a0 : Nat) (a1 : Int) (h : zH) (r : Int × zH) (hf : f_Mo_tokens a0 a1 h = some r) : zK m_Mo_tokens 0 [(0, (2, ((a0 : Nat) : Int))), (1, (0, a1))] [] h (some (0, r.1), r.2) := by
  unfold f_Mo_tokens at hf
  refine k_aload_n (pc := 0) rfl z_m0 d_Mo_tokens_0 ?_
  refine k_iload_n (pc := 1) rfl z_m1 d_Mo_tokens_1 ?_
  obtain ⟨n1, e_n1, hf⟩ := z_bd hf
  obtain ⟨q2, e_q2, hf⟩ := z_bd hf
  refine k_callVi (pc := 2) (as := [(0, a1)]) (rest := []) d_Mo_tokens_2 cw_Mo_tokens_279 rfl (Nat.le_of_ble_eq_true rfl) (z_ck_of e_n1) (t_Mo_isLine e_q2) ?_
  rcases z_it hf with ⟨w5, hf⟩ | ⟨w5, hf⟩
  · refine k_if_eq_t (pc := 5) (tgt := 17) w5 d_Mo_tokens_5 rfl ?_
    refine k_iconst (pc := 17) (zi_lit rfl) d_Mo_tokens_17 ?_
    cases hf
    exact k_iret (pc := 18) d_Mo_tokens_18 rfl
  · refine k_if_eq_f (pc := 5) (tgt := 17) w5 d_Mo_tokens_5 rfl ?_
    refine k_aload_n (pc := 8) rfl z_m0 d_Mo_tokens_8 ?_
    obtain ⟨v3, e_v3, hf⟩ := z_bd hf
    refine k_getR (pc := 9) d_Mo_tokens_9 fd_Mo_86 rfl e_v3 ?_
    refine k_iload_n (pc := 12) rfl z_m1 d_Mo_tokens_12 ?_
    obtain ⟨v4, e_v4, hf⟩ := z_bd hf
    refine k_iald (pc := 13) d_Mo_tokens_13 e_v4 ?_
    refine k_goto (pc := 14) (tgt := 18) d_Mo_tokens_14 rfl ?_
    cases hf
    exact k_iret (pc := 18) d_Mo_tokens_18 rfl
theorem t_Mo_tokens {a0 : Nat} {a1 : Int} {h : zH} {r : Int × zH} (hf : f_Mo_tokens a0 a1 h = some r) : zMt m_Mo_tokens [(2, ((a0 : Nat) : Int)), (0, a1)] h (some (0, r.1), r.2) := zMt.of (by decide) (Nat.le_of_ble_eq_true rfl) (b_Mo_tokens_0 a0 a1 h r hf)
theorem b_Mo_entry_137 (c6 : Nat → Int → Int → Int → Int → Int → zH → Option (Int × zH)) (k6 : ∀ (x0 : Nat) (x1 : Int) (x2 : Int) (x3 : Int) (x4 : Int) (x5 : Int) (g : zH) (r : Int × zH), c6 x0 x1 x2 x3 x4 x5 g = some r → zK m_Mo_entry 6 [(0, (2, ((x0 : Nat) : Int))), (1, (0, x1)), (2, (0, x2)), (3, (0, x3)), (4, (0, x4)), (5, (0, x5))] [] g (some (0, r.1), r.2)) (a0 : Nat) (a1 : Int) (a2 : Int) (a3 : Int) (a5 : Int) (s0 : Int) (h : zH) (r : Int × zH) (hf : f_Mo_entry_137 c6 a0 a1 a2 a3 a5 s0 h = some r) : zK m_Mo_entry 137 [(0, (2, ((a0 : Nat) : Int))), (1, (0, a1)), (2, (0, a2)), (3, (0, a3)), (5, (0, a5))] [(0, s0)] h (some (0, r.1), r.2) := by
  unfold f_Mo_entry_137 at hf
  refine k_istore (pc := 137) (L' := [(4, (0, s0)), (0, (2, ((a0 : Nat) : Int))), (1, (0, a1)), (2, (0, a2)), (3, (0, a3)), (5, (0, a5))]) d_Mo_entry_137 (Nat.le_of_ble_eq_true rfl) rfl ?_
  refine k_iinc (pc := 139) (L' := [(5, (0, zw (a5 + 1))), (4, (0, s0)), (0, (2, ((a0 : Nat) : Int))), (1, (0, a1)), (2, (0, a2)), (3, (0, a3))]) z_m5 d_Mo_entry_139 (Nat.le_of_ble_eq_true rfl) rfl ?_
  refine k_goto (pc := 142) (tgt := 6) d_Mo_entry_142 rfl ?_
  refine k_sub [2, 3, 4, 5, 1, 0] rfl ?_
  exact k6 a0 a1 a2 a3 s0 (zw (a5 + 1)) h _ hf
theorem b_Mo_entry_135 (c6 : Nat → Int → Int → Int → Int → Int → zH → Option (Int × zH)) (k6 : ∀ (x0 : Nat) (x1 : Int) (x2 : Int) (x3 : Int) (x4 : Int) (x5 : Int) (g : zH) (r : Int × zH), c6 x0 x1 x2 x3 x4 x5 g = some r → zK m_Mo_entry 6 [(0, (2, ((x0 : Nat) : Int))), (1, (0, x1)), (2, (0, x2)), (3, (0, x3)), (4, (0, x4)), (5, (0, x5))] [] g (some (0, r.1), r.2)) (a0 : Nat) (a1 : Int) (a2 : Int) (a3 : Int) (a4 : Int) (a5 : Int) (h : zH) (r : Int × zH) (hf : f_Mo_entry_135 c6 a0 a1 a2 a3 a4 a5 h = some r) : zK m_Mo_entry 135 [(0, (2, ((a0 : Nat) : Int))), (1, (0, a1)), (2, (0, a2)), (3, (0, a3)), (4, (0, a4)), (5, (0, a5))] [] h (some (0, r.1), r.2) := by
  unfold f_Mo_entry_135 at hf
  refine k_iload (pc := 135) z_m4 d_Mo_entry_135 ?_
  refine k_sub [0, 1, 2, 3, 5] rfl ?_
  exact b_Mo_entry_137 c6 k6 a0 a1 a2 a3 a5 a4 h _ hf
theorem b_Mo_entry_99 (c6 : Nat → Int → Int → Int → Int → Int → zH → Option (Int × zH)) (k6 : ∀ (x0 : Nat) (x1 : Int) (x2 : Int) (x3 : Int) (x4 : Int) (x5 : Int) (g : zH) (r : Int × zH), c6 x0 x1 x2 x3 x4 x5 g = some r → zK m_Mo_entry 6 [(0, (2, ((x0 : Nat) : Int))), (1, (0, x1)), (2, (0, x2)), (3, (0, x3)), (4, (0, x4)), (5, (0, x5))] [] g (some (0, r.1), r.2)) (a0 : Nat) (a1 : Int) (a2 : Int) (a3 : Int) (a4 : Int) (a5 : Int) (a6 : Int) (h : zH) (r : Int × zH) (hf : f_Mo_entry_99 c6 a0 a1 a2 a3 a4 a5 a6 h = some r) : zK m_Mo_entry 99 [(0, (2, ((a0 : Nat) : Int))), (1, (0, a1)), (2, (0, a2)), (3, (0, a3)), (4, (0, a4)), (5, (0, a5)), (6, (0, a6))] [] h (some (0, r.1), r.2) := by
  unfold f_Mo_entry_99 at hf
  refine k_iload (pc := 99) z_m6 d_Mo_entry_99 ?_
  rcases z_it hf with ⟨w8, hf⟩ | ⟨w8, hf⟩
  · refine k_if_eq_t (pc := 101) (tgt := 135) w8 d_Mo_entry_101 rfl ?_
    refine k_sub [0, 1, 2, 3, 4, 5] rfl ?_
    exact b_Mo_entry_135 c6 k6 a0 a1 a2 a3 a4 a5 h _ hf
  · refine k_if_eq_f (pc := 101) (tgt := 135) w8 d_Mo_entry_101 rfl ?_
    refine k_aload_n (pc := 104) rfl z_m0 d_Mo_entry_104 ?_
    obtain ⟨v1, e_v1, hf⟩ := z_bd hf
    refine k_getR (pc := 105) d_Mo_entry_105 fd_Mo_116 rfl e_v1 ?_
    refine k_iload (pc := 108) z_m5 d_Mo_entry_108 ?_
    obtain ⟨v2, e_v2, hf⟩ := z_bd hf
    refine k_iald (pc := 110) d_Mo_entry_110 e_v2 ?_
    refine k_aload_n (pc := 111) rfl z_m0 d_Mo_entry_111 ?_
    obtain ⟨v3, e_v3, hf⟩ := z_bd hf
    refine k_getR (pc := 112) d_Mo_entry_112 fd_Mo_95 rfl e_v3 ?_
    refine k_bipush (pc := 115) (zi_lit rfl) (by decide) d_Mo_entry_115 ?_
    refine k_iload_n (pc := 117) rfl z_m1 d_Mo_entry_117 ?_
    refine k_imul (pc := 118) d_Mo_entry_118 ?_
    refine k_iload_n (pc := 119) rfl z_m2 d_Mo_entry_119 ?_
    refine k_iadd (pc := 120) d_Mo_entry_120 ?_
    obtain ⟨v4, e_v4, hf⟩ := z_bd hf
    refine k_iald (pc := 121) d_Mo_entry_121 e_v4 ?_
    rcases z_it hf with ⟨w7, hf⟩ | ⟨w7, hf⟩
    · refine k_ic_ne_f (pc := 122) (tgt := 135) w7 d_Mo_entry_122 rfl ?_
      refine k_aload_n (pc := 125) rfl z_m0 d_Mo_entry_125 ?_
      obtain ⟨v5, e_v5, hf⟩ := z_bd hf
      refine k_getR (pc := 126) d_Mo_entry_126 fd_Mo_122 rfl e_v5 ?_
      refine k_iload (pc := 129) z_m5 d_Mo_entry_129 ?_
      obtain ⟨v6, e_v6, hf⟩ := z_bd hf
      refine k_iald (pc := 131) d_Mo_entry_131 e_v6 ?_
      refine k_goto (pc := 132) (tgt := 137) d_Mo_entry_132 rfl ?_
      refine k_sub [0, 1, 2, 3, 5] rfl ?_
      exact b_Mo_entry_137 c6 k6 a0 a1 a2 a3 a5 v6 h _ hf
    · refine k_ic_ne_t (pc := 122) (tgt := 135) w7 d_Mo_entry_122 rfl ?_
      refine k_sub [0, 1, 2, 3, 4, 5] rfl ?_
      exact b_Mo_entry_135 c6 k6 a0 a1 a2 a3 a4 a5 h _ hf
theorem b_Mo_entry_91 (c6 : Nat → Int → Int → Int → Int → Int → zH → Option (Int × zH)) (c39 : Nat → Int → Int → Int → Int → Int → Int → Int → zH → Option (Int × zH)) (k6 : ∀ (x0 : Nat) (x1 : Int) (x2 : Int) (x3 : Int) (x4 : Int) (x5 : Int) (g : zH) (r : Int × zH), c6 x0 x1 x2 x3 x4 x5 g = some r → zK m_Mo_entry 6 [(0, (2, ((x0 : Nat) : Int))), (1, (0, x1)), (2, (0, x2)), (3, (0, x3)), (4, (0, x4)), (5, (0, x5))] [] g (some (0, r.1), r.2)) (k39 : ∀ (x0 : Nat) (x1 : Int) (x2 : Int) (x3 : Int) (x4 : Int) (x5 : Int) (x6 : Int) (x7 : Int) (g : zH) (r : Int × zH), c39 x0 x1 x2 x3 x4 x5 x6 x7 g = some r → zK m_Mo_entry 39 [(0, (2, ((x0 : Nat) : Int))), (1, (0, x1)), (2, (0, x2)), (3, (0, x3)), (4, (0, x4)), (5, (0, x5)), (6, (0, x6)), (7, (0, x7))] [] g (some (0, r.1), r.2)) (a0 : Nat) (a1 : Int) (a2 : Int) (a3 : Int) (a4 : Int) (a5 : Int) (a7 : Int) (s0 : Int) (h : zH) (r : Int × zH) (hf : f_Mo_entry_91 c6 c39 a0 a1 a2 a3 a4 a5 a7 s0 h = some r) : zK m_Mo_entry 91 [(0, (2, ((a0 : Nat) : Int))), (1, (0, a1)), (2, (0, a2)), (3, (0, a3)), (4, (0, a4)), (5, (0, a5)), (7, (0, a7))] [(0, s0)] h (some (0, r.1), r.2) := by
  unfold f_Mo_entry_91 at hf
  refine k_istore (pc := 91) (L' := [(6, (0, s0)), (0, (2, ((a0 : Nat) : Int))), (1, (0, a1)), (2, (0, a2)), (3, (0, a3)), (4, (0, a4)), (5, (0, a5)), (7, (0, a7))]) d_Mo_entry_91 (Nat.le_of_ble_eq_true rfl) rfl ?_
  refine k_iinc (pc := 93) (L' := [(7, (0, zw (a7 + 1))), (6, (0, s0)), (0, (2, ((a0 : Nat) : Int))), (1, (0, a1)), (2, (0, a2)), (3, (0, a3)), (4, (0, a4)), (5, (0, a5))]) z_m7 d_Mo_entry_93 (Nat.le_of_ble_eq_true rfl) rfl ?_
  refine k_goto (pc := 96) (tgt := 39) d_Mo_entry_96 rfl ?_
  refine k_sub [2, 3, 4, 5, 6, 7, 1, 0] rfl ?_
  exact k39 a0 a1 a2 a3 a4 a5 s0 (zw (a7 + 1)) h _ hf
theorem b_Mo_entry_86 (c6 : Nat → Int → Int → Int → Int → Int → zH → Option (Int × zH)) (c39 : Nat → Int → Int → Int → Int → Int → Int → Int → zH → Option (Int × zH)) (k6 : ∀ (x0 : Nat) (x1 : Int) (x2 : Int) (x3 : Int) (x4 : Int) (x5 : Int) (g : zH) (r : Int × zH), c6 x0 x1 x2 x3 x4 x5 g = some r → zK m_Mo_entry 6 [(0, (2, ((x0 : Nat) : Int))), (1, (0, x1)), (2, (0, x2)), (3, (0, x3)), (4, (0, x4)), (5, (0, x5))] [] g (some (0, r.1), r.2)) (k39 : ∀ (x0 : Nat) (x1 : Int) (x2 : Int) (x3 : Int) (x4 : Int) (x5 : Int) (x6 : Int) (x7 : Int) (g : zH) (r : Int × zH), c39 x0 x1 x2 x3 x4 x5 x6 x7 g = some r → zK m_Mo_entry 39 [(0, (2, ((x0 : Nat) : Int))), (1, (0, x1)), (2, (0, x2)), (3, (0, x3)), (4, (0, x4)), (5, (0, x5)), (6, (0, x6)), (7, (0, x7))] [] g (some (0, r.1), r.2)) (a0 : Nat) (a1 : Int) (a2 : Int) (a3 : Int) (a4 : Int) (a5 : Int) (a7 : Int) (h : zH) (r : Int × zH) (hf : f_Mo_entry_86 c6 c39 a0 a1 a2 a3 a4 a5 a7 h = some r) : zK m_Mo_entry 86 [(0, (2, ((a0 : Nat) : Int))), (1, (0, a1)), (2, (0, a2)), (3, (0, a3)), (4, (0, a4)), (5, (0, a5)), (7, (0, a7))] [] h (some (0, r.1), r.2) := by
  unfold f_Mo_entry_86 at hf
  refine k_iconst (pc := 86) (zi_lit rfl) d_Mo_entry_86 ?_
  refine k_goto (pc := 87) (tgt := 91) d_Mo_entry_87 rfl ?_
  exact b_Mo_entry_91 c6 c39 k6 k39 a0 a1 a2 a3 a4 a5 a7 1 h _ hf
theorem b_Mo_entry_90 (c6 : Nat → Int → Int → Int → Int → Int → zH → Option (Int × zH)) (c39 : Nat → Int → Int → Int → Int → Int → Int → Int → zH → Option (Int × zH)) (k6 : ∀ (x0 : Nat) (x1 : Int) (x2 : Int) (x3 : Int) (x4 : Int) (x5 : Int) (g : zH) (r : Int × zH), c6 x0 x1 x2 x3 x4 x5 g = some r → zK m_Mo_entry 6 [(0, (2, ((x0 : Nat) : Int))), (1, (0, x1)), (2, (0, x2)), (3, (0, x3)), (4, (0, x4)), (5, (0, x5))] [] g (some (0, r.1), r.2)) (k39 : ∀ (x0 : Nat) (x1 : Int) (x2 : Int) (x3 : Int) (x4 : Int) (x5 : Int) (x6 : Int) (x7 : Int) (g : zH) (r : Int × zH), c39 x0 x1 x2 x3 x4 x5 x6 x7 g = some r → zK m_Mo_entry 39 [(0, (2, ((x0 : Nat) : Int))), (1, (0, x1)), (2, (0, x2)), (3, (0, x3)), (4, (0, x4)), (5, (0, x5)), (6, (0, x6)), (7, (0, x7))] [] g (some (0, r.1), r.2)) (a0 : Nat) (a1 : Int) (a2 : Int) (a3 : Int) (a4 : Int) (a5 : Int) (a7 : Int) (h : zH) (r : Int × zH) (hf : f_Mo_entry_90 c6 c39 a0 a1 a2 a3 a4 a5 a7 h = some r) : zK m_Mo_entry 90 [(0, (2, ((a0 : Nat) : Int))), (1, (0, a1)), (2, (0, a2)), (3, (0, a3)), (4, (0, a4)), (5, (0, a5)), (7, (0, a7))] [] h (some (0, r.1), r.2) := by
  unfold f_Mo_entry_90 at hf
  refine k_iconst (pc := 90) (zi_lit rfl) d_Mo_entry_90 ?_
  exact b_Mo_entry_91 c6 c39 k6 k39 a0 a1 a2 a3 a4 a5 a7 0 h _ hf
theorem b_Mo_entry_39 (c6 : Nat → Int → Int → Int → Int → Int → zH → Option (Int × zH)) (k6 : ∀ (x0 : Nat) (x1 : Int) (x2 : Int) (x3 : Int) (x4 : Int) (x5 : Int) (g : zH) (r : Int × zH), c6 x0 x1 x2 x3 x4 x5 g = some r → zK m_Mo_entry 6 [(0, (2, ((x0 : Nat) : Int))), (1, (0, x1)), (2, (0, x2)), (3, (0, x3)), (4, (0, x4)), (5, (0, x5))] [] g (some (0, r.1), r.2)) : ∀ (n : Nat) (a0 : Nat) (a1 : Int) (a2 : Int) (a3 : Int) (a4 : Int) (a5 : Int) (a6 : Int) (a7 : Int) (h : zH) (r : Int × zH), f_Mo_entry_39 c6 n a0 a1 a2 a3 a4 a5 a6 a7 h = some r → zK m_Mo_entry 39 [(0, (2, ((a0 : Nat) : Int))), (1, (0, a1)), (2, (0, a2)), (3, (0, a3)), (4, (0, a4)), (5, (0, a5)), (6, (0, a6)), (7, (0, a7))] [] h (some (0, r.1), r.2) := by
  intro n
  induction n with
  | zero =>
    intro a0 a1 a2 a3 a4 a5 a6 a7 h r hf
    cases hf
  | succ n ih =>
    intro a0 a1 a2 a3 a4 a5 a6 a7 h r hf
    unfold f_Mo_entry_39 at hf
    refine k_iload (pc := 39) z_m7 d_Mo_entry_39 ?_
    refine k_iload_n (pc := 41) rfl z_m2 d_Mo_entry_41 ?_
    rcases z_it hf with ⟨w19, hf⟩ | ⟨w19, hf⟩
    · refine k_ic_ge_t (pc := 42) (tgt := 99) w19 d_Mo_entry_42 rfl ?_
      refine k_sub [0, 1, 2, 3, 4, 5, 6] rfl ?_
      exact b_Mo_entry_99 c6 k6 a0 a1 a2 a3 a4 a5 a6 h _ hf
    · refine k_ic_ge_f (pc := 42) (tgt := 99) w19 d_Mo_entry_42 rfl ?_
      refine k_iload_n (pc := 45) rfl z_m3 d_Mo_entry_45 ?_
      rcases z_it hf with ⟨w18, hf⟩ | ⟨w18, hf⟩
      · refine k_if_ne_f (pc := 46) (tgt := 99) w18 d_Mo_entry_46 rfl ?_
        refine k_iload (pc := 49) z_m6 d_Mo_entry_49 ?_
        rcases z_it hf with ⟨w17, hf⟩ | ⟨w17, hf⟩
        · refine k_if_ne_f (pc := 51) (tgt := 86) w17 d_Mo_entry_51 rfl ?_
          refine k_aload_n (pc := 54) rfl z_m0 d_Mo_entry_54 ?_
          obtain ⟨v9, e_v9, hf⟩ := z_bd hf
          refine k_getR (pc := 55) d_Mo_entry_55 fd_Mo_119 rfl e_v9 ?_
          refine k_iload (pc := 58) z_m5 d_Mo_entry_58 ?_
          obtain ⟨v10, e_v10, hf⟩ := z_bd hf
          refine k_iald (pc := 60) d_Mo_entry_60 e_v10 ?_
          rcases z_it hf with ⟨w16, hf⟩ | ⟨w16, hf⟩
          · refine k_if_le_t (pc := 61) (tgt := 90) w16 d_Mo_entry_61 rfl ?_
            refine k_sub [0, 1, 2, 3, 4, 5, 7] rfl ?_
            exact b_Mo_entry_90 c6 (f_Mo_entry_39 c6 n) k6 ih a0 a1 a2 a3 a4 a5 a7 h _ hf
          · refine k_if_le_f (pc := 61) (tgt := 90) w16 d_Mo_entry_61 rfl ?_
            refine k_aload_n (pc := 64) rfl z_m0 d_Mo_entry_64 ?_
            obtain ⟨v11, e_v11, hf⟩ := z_bd hf
            refine k_getR (pc := 65) d_Mo_entry_65 fd_Mo_95 rfl e_v11 ?_
            refine k_bipush (pc := 68) (zi_lit rfl) (by decide) d_Mo_entry_68 ?_
            refine k_iload_n (pc := 70) rfl z_m1 d_Mo_entry_70 ?_
            refine k_imul (pc := 71) d_Mo_entry_71 ?_
            refine k_iload (pc := 72) z_m7 d_Mo_entry_72 ?_
            refine k_iadd (pc := 74) d_Mo_entry_74 ?_
            obtain ⟨v12, e_v12, hf⟩ := z_bd hf
            refine k_iald (pc := 75) d_Mo_entry_75 e_v12 ?_
            refine k_aload_n (pc := 76) rfl z_m0 d_Mo_entry_76 ?_
            obtain ⟨v13, e_v13, hf⟩ := z_bd hf
            refine k_getR (pc := 77) d_Mo_entry_77 fd_Mo_119 rfl e_v13 ?_
            refine k_iload (pc := 80) z_m5 d_Mo_entry_80 ?_
            obtain ⟨v14, e_v14, hf⟩ := z_bd hf
            refine k_iald (pc := 82) d_Mo_entry_82 e_v14 ?_
            rcases z_it hf with ⟨w15, hf⟩ | ⟨w15, hf⟩
            · refine k_ic_ne_f (pc := 83) (tgt := 90) w15 d_Mo_entry_83 rfl ?_
              refine k_sub [0, 1, 2, 3, 4, 5, 7] rfl ?_
              exact b_Mo_entry_86 c6 (f_Mo_entry_39 c6 n) k6 ih a0 a1 a2 a3 a4 a5 a7 h _ hf
            · refine k_ic_ne_t (pc := 83) (tgt := 90) w15 d_Mo_entry_83 rfl ?_
              refine k_sub [0, 1, 2, 3, 4, 5, 7] rfl ?_
              exact b_Mo_entry_90 c6 (f_Mo_entry_39 c6 n) k6 ih a0 a1 a2 a3 a4 a5 a7 h _ hf
        · refine k_if_ne_t (pc := 51) (tgt := 86) w17 d_Mo_entry_51 rfl ?_
          refine k_sub [0, 1, 2, 3, 4, 5, 7] rfl ?_
          exact b_Mo_entry_86 c6 (f_Mo_entry_39 c6 n) k6 ih a0 a1 a2 a3 a4 a5 a7 h _ hf
      · refine k_if_ne_t (pc := 46) (tgt := 99) w18 d_Mo_entry_46 rfl ?_
        refine k_sub [0, 1, 2, 3, 4, 5, 6] rfl ?_
        exact b_Mo_entry_99 c6 k6 a0 a1 a2 a3 a4 a5 a6 h _ hf
theorem b_Mo_entry_34 (c6 : Nat → Int → Int → Int → Int → Int → zH → Option (Int × zH)) (k6 : ∀ (x0 : Nat) (x1 : Int) (x2 : Int) (x3 : Int) (x4 : Int) (x5 : Int) (g : zH) (r : Int × zH), c6 x0 x1 x2 x3 x4 x5 g = some r → zK m_Mo_entry 6 [(0, (2, ((x0 : Nat) : Int))), (1, (0, x1)), (2, (0, x2)), (3, (0, x3)), (4, (0, x4)), (5, (0, x5))] [] g (some (0, r.1), r.2)) (a0 : Nat) (a1 : Int) (a2 : Int) (a3 : Int) (a4 : Int) (a5 : Int) (s0 : Int) (h : zH) (r : Int × zH) (hf : f_Mo_entry_34 c6 a0 a1 a2 a3 a4 a5 s0 h = some r) : zK m_Mo_entry 34 [(0, (2, ((a0 : Nat) : Int))), (1, (0, a1)), (2, (0, a2)), (3, (0, a3)), (4, (0, a4)), (5, (0, a5))] [(0, s0)] h (some (0, r.1), r.2) := by
  unfold f_Mo_entry_34 at hf
  refine k_istore (pc := 34) (L' := [(6, (0, s0)), (0, (2, ((a0 : Nat) : Int))), (1, (0, a1)), (2, (0, a2)), (3, (0, a3)), (4, (0, a4)), (5, (0, a5))]) d_Mo_entry_34 (Nat.le_of_ble_eq_true rfl) rfl ?_
  refine k_iconst (pc := 36) (zi_lit rfl) d_Mo_entry_36 ?_
  refine k_istore (pc := 37) (L' := [(7, (0, 0)), (6, (0, s0)), (0, (2, ((a0 : Nat) : Int))), (1, (0, a1)), (2, (0, a2)), (3, (0, a3)), (4, (0, a4)), (5, (0, a5))]) d_Mo_entry_37 (Nat.le_of_ble_eq_true rfl) rfl ?_
  refine k_sub [2, 3, 4, 5, 6, 7, 1, 0] rfl ?_
  exact b_Mo_entry_39 c6 k6 100000 a0 a1 a2 a3 a4 a5 s0 0 h _ hf
theorem b_Mo_entry_33 (c6 : Nat → Int → Int → Int → Int → Int → zH → Option (Int × zH)) (k6 : ∀ (x0 : Nat) (x1 : Int) (x2 : Int) (x3 : Int) (x4 : Int) (x5 : Int) (g : zH) (r : Int × zH), c6 x0 x1 x2 x3 x4 x5 g = some r → zK m_Mo_entry 6 [(0, (2, ((x0 : Nat) : Int))), (1, (0, x1)), (2, (0, x2)), (3, (0, x3)), (4, (0, x4)), (5, (0, x5))] [] g (some (0, r.1), r.2)) (a0 : Nat) (a1 : Int) (a2 : Int) (a3 : Int) (a4 : Int) (a5 : Int) (h : zH) (r : Int × zH) (hf : f_Mo_entry_33 c6 a0 a1 a2 a3 a4 a5 h = some r) : zK m_Mo_entry 33 [(0, (2, ((a0 : Nat) : Int))), (1, (0, a1)), (2, (0, a2)), (3, (0, a3)), (4, (0, a4)), (5, (0, a5))] [] h (some (0, r.1), r.2) := by
  unfold f_Mo_entry_33 at hf
  refine k_iconst (pc := 33) (zi_lit rfl) d_Mo_entry_33 ?_
  exact b_Mo_entry_34 c6 k6 a0 a1 a2 a3 a4 a5 0 h _ hf
theorem b_Mo_entry_6 : ∀ (n : Nat) (a0 : Nat) (a1 : Int) (a2 : Int) (a3 : Int) (a4 : Int) (a5 : Int) (h : zH) (r : Int × zH), f_Mo_entry_6 n a0 a1 a2 a3 a4 a5 h = some r → zK m_Mo_entry 6 [(0, (2, ((a0 : Nat) : Int))), (1, (0, a1)), (2, (0, a2)), (3, (0, a3)), (4, (0, a4)), (5, (0, a5))] [] h (some (0, r.1), r.2) := by
  intro n
  induction n with
  | zero =>
    intro a0 a1 a2 a3 a4 a5 h r hf
    cases hf
  | succ n ih =>
    intro a0 a1 a2 a3 a4 a5 h r hf
    unfold f_Mo_entry_6 at hf
    refine k_iload (pc := 6) z_m5 d_Mo_entry_6 ?_
    refine k_aload_n (pc := 8) rfl z_m0 d_Mo_entry_8 ?_
    obtain ⟨v20, e_v20, hf⟩ := z_bd hf
    refine k_getI (pc := 9) d_Mo_entry_9 fd_Mo_272 rfl e_v20 ?_
    rcases z_it hf with ⟨w25, hf⟩ | ⟨w25, hf⟩
    · refine k_ic_ge_t (pc := 12) (tgt := 145) w25 d_Mo_entry_12 rfl ?_
      refine k_iload (pc := 145) z_m4 d_Mo_entry_145 ?_
      cases hf
      exact k_iret (pc := 147) d_Mo_entry_147 rfl
    · refine k_ic_ge_f (pc := 12) (tgt := 145) w25 d_Mo_entry_12 rfl ?_
      refine k_iload_n (pc := 15) rfl z_m3 d_Mo_entry_15 ?_
      rcases z_it hf with ⟨w24, hf⟩ | ⟨w24, hf⟩
      · refine k_if_eq_t (pc := 16) (tgt := 33) w24 d_Mo_entry_16 rfl ?_
        exact b_Mo_entry_33 (f_Mo_entry_6 n) ih a0 a1 a2 a3 a4 a5 h _ hf
      · refine k_if_eq_f (pc := 16) (tgt := 33) w24 d_Mo_entry_16 rfl ?_
        refine k_aload_n (pc := 19) rfl z_m0 d_Mo_entry_19 ?_
        obtain ⟨v21, e_v21, hf⟩ := z_bd hf
        refine k_getR (pc := 20) d_Mo_entry_20 fd_Mo_119 rfl e_v21 ?_
        refine k_iload (pc := 23) z_m5 d_Mo_entry_23 ?_
        obtain ⟨v22, e_v22, hf⟩ := z_bd hf
        refine k_iald (pc := 25) d_Mo_entry_25 e_v22 ?_
        rcases z_it hf with ⟨w23, hf⟩ | ⟨w23, hf⟩
        · refine k_if_ne_f (pc := 26) (tgt := 33) w23 d_Mo_entry_26 rfl ?_
          refine k_iconst (pc := 29) (zi_lit rfl) d_Mo_entry_29 ?_
          refine k_goto (pc := 30) (tgt := 34) d_Mo_entry_30 rfl ?_
          exact b_Mo_entry_34 (f_Mo_entry_6 n) ih a0 a1 a2 a3 a4 a5 1 h _ hf
        · refine k_if_ne_t (pc := 26) (tgt := 33) w23 d_Mo_entry_26 rfl ?_
          exact b_Mo_entry_33 (f_Mo_entry_6 n) ih a0 a1 a2 a3 a4 a5 h _ hf
theorem b_Mo_entry_0 (a0 : Nat) (a1 : Int) (a2 : Int) (a3 : Int) (h : zH) (r : Int × zH) (hf : f_Mo_entry a0 a1 a2 a3 h = some r) : zK m_Mo_entry 0 [(0, (2, ((a0 : Nat) : Int))), (1, (0, a1)), (2, (0, a2)), (3, (0, a3))] [] h (some (0, r.1), r.2) := by
  unfold f_Mo_entry at hf
  refine k_iconst (pc := 0) (zi_lit rfl) d_Mo_entry_0 ?_
  refine k_istore (pc := 1) (L' := [(4, (0, 0)), (0, (2, ((a0 : Nat) : Int))), (1, (0, a1)), (2, (0, a2)), (3, (0, a3))]) d_Mo_entry_1 (Nat.le_of_ble_eq_true rfl) rfl ?_
  refine k_iconst (pc := 3) (zi_lit rfl) d_Mo_entry_3 ?_
  refine k_istore (pc := 4) (L' := [(5, (0, 0)), (4, (0, 0)), (0, (2, ((a0 : Nat) : Int))), (1, (0, a1)), (2, (0, a2)), (3, (0, a3))]) d_Mo_entry_4 (Nat.le_of_ble_eq_true rfl) rfl ?_
  refine k_sub [2, 3, 4, 5, 1, 0] rfl ?_
  exact b_Mo_entry_6 100000 a0 a1 a2 a3 0 0 h _ hf
theorem t_Mo_entry {a0 : Nat} {a1 : Int} {a2 : Int} {a3 : Int} {h : zH} {r : Int × zH} (hf : f_Mo_entry a0 a1 a2 a3 h = some r) : zMt m_Mo_entry [(2, ((a0 : Nat) : Int)), (0, a1), (0, a2), (0, a3)] h (some (0, r.1), r.2) := zMt.of (by decide) (Nat.le_of_ble_eq_true rfl) (b_Mo_entry_0 a0 a1 a2 a3 h r hf)
theorem b_Mo_colour_42 (c11 : Nat → Int → Int → Int → zH → Option (Int × zH)) (k11 : ∀ (x0 : Nat) (x1 : Int) (x2 : Int) (x3 : Int) (g : zH) (r : Int × zH), c11 x0 x1 x2 x3 g = some r → zK m_Mo_colour 11 [(0, (2, ((x0 : Nat) : Int))), (1, (0, x1)), (2, (0, x2)), (3, (0, x3))] [] g (some (0, r.1), r.2)) (a0 : Nat) (a1 : Int) (a3 : Int) (s0 : Int) (h : zH) (r : Int × zH) (hf : f_Mo_colour_42 c11 a0 a1 a3 s0 h = some r) : zK m_Mo_colour 42 [(0, (2, ((a0 : Nat) : Int))), (1, (0, a1)), (3, (0, a3))] [(0, s0)] h (some (0, r.1), r.2) := by
  unfold f_Mo_colour_42 at hf
  refine k_istore_n (pc := 42) (L' := [(2, (0, s0)), (0, (2, ((a0 : Nat) : Int))), (1, (0, a1)), (3, (0, a3))]) rfl d_Mo_colour_42 (Nat.le_of_ble_eq_true rfl) rfl ?_
  refine k_iinc (pc := 43) (L' := [(3, (0, zw (a3 + (-1)))), (2, (0, s0)), (0, (2, ((a0 : Nat) : Int))), (1, (0, a1))]) z_m3 d_Mo_colour_43 (Nat.le_of_ble_eq_true rfl) rfl ?_
  refine k_goto (pc := 46) (tgt := 11) d_Mo_colour_46 rfl ?_
  refine k_sub [2, 3, 1, 0] rfl ?_
  exact k11 a0 a1 s0 (zw (a3 + (-1))) h _ hf
theorem b_Mo_colour_11 : ∀ (n : Nat) (a0 : Nat) (a1 : Int) (a2 : Int) (a3 : Int) (h : zH) (r : Int × zH), f_Mo_colour_11 n a0 a1 a2 a3 h = some r → zK m_Mo_colour 11 [(0, (2, ((a0 : Nat) : Int))), (1, (0, a1)), (2, (0, a2)), (3, (0, a3))] [] h (some (0, r.1), r.2) := by
  intro n
  induction n with
  | zero =>
    intro a0 a1 a2 a3 h r hf
    cases hf
  | succ n ih =>
    intro a0 a1 a2 a3 h r hf
    unfold f_Mo_colour_11 at hf
    refine k_iload_n (pc := 11) rfl z_m3 d_Mo_colour_11 ?_
    rcases z_it hf with ⟨w7, hf⟩ | ⟨w7, hf⟩
    · refine k_if_lt_t (pc := 12) (tgt := 49) w7 d_Mo_colour_12 rfl ?_
      refine k_iload_n (pc := 49) rfl z_m2 d_Mo_colour_49 ?_
      cases hf
      exact k_iret (pc := 50) d_Mo_colour_50 rfl
    · refine k_if_lt_f (pc := 12) (tgt := 49) w7 d_Mo_colour_12 rfl ?_
      refine k_iload_n (pc := 15) rfl z_m2 d_Mo_colour_15 ?_
      rcases z_it hf with ⟨w6, hf⟩ | ⟨w6, hf⟩
      · refine k_if_ne_f (pc := 16) (tgt := 49) w6 d_Mo_colour_16 rfl ?_
        refine k_aload_n (pc := 19) rfl z_m0 d_Mo_colour_19 ?_
        refine k_iload_n (pc := 20) rfl z_m1 d_Mo_colour_20 ?_
        refine k_iload_n (pc := 21) rfl z_m3 d_Mo_colour_21 ?_
        refine k_iconst (pc := 22) (zi_lit rfl) d_Mo_colour_22 ?_
        obtain ⟨n1, e_n1, hf⟩ := z_bd hf
        obtain ⟨q2, e_q2, hf⟩ := z_bd hf
        refine k_callVi (pc := 23) (as := [(0, a1), (0, a3), (0, 0)]) (rest := []) d_Mo_colour_23 cw_Mo_colour_282 rfl (Nat.le_of_ble_eq_true rfl) (z_ck_of e_n1) (t_Mo_entry e_q2) ?_
        refine k_istore_n (pc := 26) (L' := [(2, (0, q2.1)), (0, (2, ((a0 : Nat) : Int))), (1, (0, a1)), (3, (0, a3))]) rfl d_Mo_colour_26 (Nat.le_of_ble_eq_true rfl) rfl ?_
        refine k_iload_n (pc := 27) rfl z_m0 d_Mo_colour_27 ?_
        rcases z_it hf with ⟨w5, hf⟩ | ⟨w5, hf⟩
        · refine k_if_ne_f (pc := 28) (tgt := 41) w5 d_Mo_colour_28 rfl ?_
          refine k_aload_n (pc := 31) rfl z_m1 d_Mo_colour_31 ?_
          refine k_iload_n (pc := 32) rfl z_m2 d_Mo_colour_32 ?_
          refine k_iload_n (pc := 33) rfl z_m3 d_Mo_colour_33 ?_
          refine k_iconst (pc := 34) (zi_lit rfl) d_Mo_colour_34 ?_
          obtain ⟨n3, e_n3, hf⟩ := z_bd hf
          obtain ⟨q4, e_q4, hf⟩ := z_bd hf
          refine k_callVi (pc := 35) (as := [(0, a1), (0, a3), (0, 1)]) (rest := []) d_Mo_colour_35 cw_Mo_colour_282 rfl (Nat.le_of_ble_eq_true rfl) (z_ck_of e_n3) (t_Mo_entry e_q4) ?_
          refine k_goto (pc := 38) (tgt := 42) d_Mo_colour_38 rfl ?_
          refine k_sub [1, 2, 3] rfl ?_
          exact b_Mo_colour_42 (f_Mo_colour_11 n) ih a0 a1 a3 q4.1 q4.2 _ hf
        · refine k_if_ne_t (pc := 28) (tgt := 41) w5 d_Mo_colour_28 rfl ?_
          refine k_iload_n (pc := 41) rfl z_m0 d_Mo_colour_41 ?_
          refine k_sub [1, 2, 3] rfl ?_
          exact b_Mo_colour_42 (f_Mo_colour_11 n) ih a0 a1 a3 q2.1 q2.2 _ hf
      · refine k_if_ne_t (pc := 16) (tgt := 49) w6 d_Mo_colour_16 rfl ?_
        refine k_iload_n (pc := 49) rfl z_m2 d_Mo_colour_49 ?_
        cases hf
        exact k_iret (pc := 50) d_Mo_colour_50 rfl
theorem b_Mo_colour_0 (a0 : Nat) (a1 : Int) (h : zH) (r : Int × zH) (hf : f_Mo_colour a0 a1 h = some r) : zK m_Mo_colour 0 [(0, (2, ((a0 : Nat) : Int))), (1, (0, a1))] [] h (some (0, r.1), r.2) := by
  unfold f_Mo_colour at hf
  refine k_iconst (pc := 0) (zi_lit rfl) d_Mo_colour_0 ?_
  refine k_istore_n (pc := 1) (L' := [(2, (0, 0)), (0, (2, ((a0 : Nat) : Int))), (1, (0, a1))]) rfl d_Mo_colour_1 (Nat.le_of_ble_eq_true rfl) rfl ?_
  refine k_aload_n (pc := 2) rfl z_m1 d_Mo_colour_2 ?_
  obtain ⟨v8, e_v8, hf⟩ := z_bd hf
  refine k_getR (pc := 3) d_Mo_colour_3 fd_Mo_92 rfl e_v8 ?_
  refine k_iload_n (pc := 6) rfl z_m2 d_Mo_colour_6 ?_
  obtain ⟨v9, e_v9, hf⟩ := z_bd hf
  refine k_iald (pc := 7) d_Mo_colour_7 e_v9 ?_
  refine k_iconst (pc := 8) (zi_lit rfl) d_Mo_colour_8 ?_
  refine k_isub (pc := 9) d_Mo_colour_9 ?_
  refine k_istore_n (pc := 10) (L' := [(3, (0, zw (v9 - 1))), (2, (0, 0)), (0, (2, ((a0 : Nat) : Int))), (1, (0, a1))]) rfl d_Mo_colour_10 (Nat.le_of_ble_eq_true rfl) rfl ?_
  refine k_sub [2, 3, 1, 0] rfl ?_
  exact b_Mo_colour_11 100000 a0 a1 0 (zw (v9 - 1)) h _ hf
theorem t_Mo_colour {a0 : Nat} {a1 : Int} {h : zH} {r : Int × zH} (hf : f_Mo_colour a0 a1 h = some r) : zMt m_Mo_colour [(2, ((a0 : Nat) : Int)), (0, a1)] h (some (0, r.1), r.2) := zMt.of (by decide) (Nat.le_of_ble_eq_true rfl) (b_Mo_colour_0 a0 a1 h r hf)
theorem b_Mo_token_0 (a0 : Nat) (a1 : Int) (a2 : Int) (a3 : Int) (h : zH) (r : Int × zH) (hf : f_Mo_token a0 a1 a2 a3 h = some r) : zK m_Mo_token 0 [(0, (2, ((a0 : Nat) : Int))), (1, (0, a1)), (2, (0, a2)), (3, (0, a3))] [] h (some (0, r.1), r.2) := by
  unfold f_Mo_token at hf
  refine k_aload_n (pc := 0) rfl z_m0 d_Mo_token_0 ?_
  refine k_iload_n (pc := 1) rfl z_m1 d_Mo_token_1 ?_
  obtain ⟨n1, e_n1, hf⟩ := z_bd hf
  obtain ⟨q2, e_q2, hf⟩ := z_bd hf
  refine k_callVi (pc := 2) (as := [(0, a1)]) (rest := []) d_Mo_token_2 cw_Mo_token_279 rfl (Nat.le_of_ble_eq_true rfl) (z_ck_of e_n1) (t_Mo_isLine e_q2) ?_
  rcases z_it hf with ⟨w21, hf⟩ | ⟨w21, hf⟩
  · refine k_if_eq_t (pc := 5) (tgt := 21) w21 d_Mo_token_5 rfl ?_
    refine k_iconst (pc := 21) (zi_lit rfl) d_Mo_token_21 ?_
    cases hf
    exact k_iret (pc := 22) d_Mo_token_22 rfl
  · refine k_if_eq_f (pc := 5) (tgt := 21) w21 d_Mo_token_5 rfl ?_
    refine k_iload_n (pc := 8) rfl z_m2 d_Mo_token_8 ?_
    rcases z_it hf with ⟨w20, hf⟩ | ⟨w20, hf⟩
    · refine k_if_lt_t (pc := 9) (tgt := 21) w20 d_Mo_token_9 rfl ?_
      refine k_iconst (pc := 21) (zi_lit rfl) d_Mo_token_21 ?_
      cases hf
      exact k_iret (pc := 22) d_Mo_token_22 rfl
    · refine k_if_lt_f (pc := 9) (tgt := 21) w20 d_Mo_token_9 rfl ?_
      refine k_iload_n (pc := 12) rfl z_m3 d_Mo_token_12 ?_
      rcases z_it hf with ⟨w19, hf⟩ | ⟨w19, hf⟩
      · refine k_if_lt_t (pc := 13) (tgt := 21) w19 d_Mo_token_13 rfl ?_
        refine k_iconst (pc := 21) (zi_lit rfl) d_Mo_token_21 ?_
        cases hf
        exact k_iret (pc := 22) d_Mo_token_22 rfl
      · refine k_if_lt_f (pc := 13) (tgt := 21) w19 d_Mo_token_13 rfl ?_
        refine k_iload_n (pc := 16) rfl z_m3 d_Mo_token_16 ?_
        refine k_iconst (pc := 17) (zi_lit rfl) d_Mo_token_17 ?_
        rcases z_it hf with ⟨w18, hf⟩ | ⟨w18, hf⟩
        · refine k_ic_le_t (pc := 18) (tgt := 23) w18 d_Mo_token_18 rfl ?_
          refine k_iload_n (pc := 23) rfl z_m2 d_Mo_token_23 ?_
          refine k_aload_n (pc := 24) rfl z_m0 d_Mo_token_24 ?_
          obtain ⟨v3, e_v3, hf⟩ := z_bd hf
          refine k_getR (pc := 25) d_Mo_token_25 fd_Mo_86 rfl e_v3 ?_
          refine k_iload_n (pc := 28) rfl z_m1 d_Mo_token_28 ?_
          obtain ⟨v4, e_v4, hf⟩ := z_bd hf
          refine k_iald (pc := 29) d_Mo_token_29 e_v4 ?_
          rcases z_it hf with ⟨w17, hf⟩ | ⟨w17, hf⟩
          · refine k_ic_lt_t (pc := 30) (tgt := 35) w17 d_Mo_token_30 rfl ?_
            refine k_bipush (pc := 35) (zi_lit rfl) (by decide) d_Mo_token_35 ?_
            refine k_iload_n (pc := 37) rfl z_m1 d_Mo_token_37 ?_
            refine k_imul (pc := 38) d_Mo_token_38 ?_
            refine k_iload_n (pc := 39) rfl z_m2 d_Mo_token_39 ?_
            refine k_iadd (pc := 40) d_Mo_token_40 ?_
            refine k_istore (pc := 41) (L' := [(4, (0, zw ((zw (24 * a1)) + a2))), (0, (2, ((a0 : Nat) : Int))), (1, (0, a1)), (2, (0, a2)), (3, (0, a3))]) d_Mo_token_41 (Nat.le_of_ble_eq_true rfl) rfl ?_
            refine k_aload_n (pc := 43) rfl z_m1 d_Mo_token_43 ?_
            obtain ⟨v5, e_v5, hf⟩ := z_bd hf
            refine k_getR (pc := 44) d_Mo_token_44 fd_Mo_92 rfl e_v5 ?_
            refine k_iload (pc := 47) z_m0 d_Mo_token_47 ?_
            obtain ⟨v6, e_v6, hf⟩ := z_bd hf
            refine k_iald (pc := 49) d_Mo_token_49 e_v6 ?_
            refine k_istore (pc := 50) (L' := [(5, (0, v6)), (4, (0, zw ((zw (24 * a1)) + a2))), (0, (2, ((a0 : Nat) : Int))), (1, (0, a1)), (2, (0, a2)), (3, (0, a3))]) d_Mo_token_50 (Nat.le_of_ble_eq_true rfl) rfl ?_
            refine k_iload_n (pc := 52) rfl z_m5 d_Mo_token_52 ?_
            rcases z_it hf with ⟨w16, hf⟩ | ⟨w16, hf⟩
            · refine k_if_ne_f (pc := 53) (tgt := 66) w16 d_Mo_token_53 rfl ?_
              refine k_aload_n (pc := 56) rfl z_m2 d_Mo_token_56 ?_
              obtain ⟨v14, e_v14, hf⟩ := z_bd hf
              refine k_getR (pc := 57) d_Mo_token_57 fd_Mo_89 rfl e_v14 ?_
              refine k_iload (pc := 60) z_m1 d_Mo_token_60 ?_
              obtain ⟨v15, e_v15, hf⟩ := z_bd hf
              refine k_iald (pc := 62) d_Mo_token_62 e_v15 ?_
              refine k_goto (pc := 63) (tgt := 114) d_Mo_token_63 rfl ?_
              cases hf
              exact k_iret (pc := 114) d_Mo_token_114 rfl
            · refine k_if_ne_t (pc := 53) (tgt := 66) w16 d_Mo_token_53 rfl ?_
              refine k_iload_n (pc := 66) rfl z_m5 d_Mo_token_66 ?_
              refine k_iconst (pc := 67) (zi_lit rfl) d_Mo_token_67 ?_
              rcases z_it hf with ⟨w13, hf⟩ | ⟨w13, hf⟩
              · refine k_ic_ne_f (pc := 68) (tgt := 76) w13 d_Mo_token_68 rfl ?_
                refine k_iload (pc := 71) z_m0 d_Mo_token_71 ?_
                refine k_goto (pc := 73) (tgt := 114) d_Mo_token_73 rfl ?_
                cases hf
                exact k_iret (pc := 114) d_Mo_token_114 rfl
              · refine k_ic_ne_t (pc := 68) (tgt := 76) w13 d_Mo_token_68 rfl ?_
                refine k_iload_n (pc := 76) rfl z_m5 d_Mo_token_76 ?_
                refine k_iconst (pc := 77) (zi_lit rfl) d_Mo_token_77 ?_
                rcases z_it hf with ⟨w12, hf⟩ | ⟨w12, hf⟩
                · refine k_ic_ne_f (pc := 78) (tgt := 108) w12 d_Mo_token_78 rfl ?_
                  refine k_iload (pc := 81) z_m0 d_Mo_token_81 ?_
                  rcases z_it hf with ⟨w11, hf⟩ | ⟨w11, hf⟩
                  · refine k_if_ne_f (pc := 83) (tgt := 90) w11 d_Mo_token_83 rfl ?_
                    refine k_iconst (pc := 86) (zi_lit rfl) d_Mo_token_86 ?_
                    refine k_goto (pc := 87) (tgt := 114) d_Mo_token_87 rfl ?_
                    cases hf
                    exact k_iret (pc := 114) d_Mo_token_114 rfl
                  · refine k_if_ne_t (pc := 83) (tgt := 90) w11 d_Mo_token_83 rfl ?_
                    refine k_aload_n (pc := 90) rfl z_m2 d_Mo_token_90 ?_
                    obtain ⟨v9, e_v9, hf⟩ := z_bd hf
                    refine k_getR (pc := 91) d_Mo_token_91 fd_Mo_95 rfl e_v9 ?_
                    refine k_bipush (pc := 94) (zi_lit rfl) (by decide) d_Mo_token_94 ?_
                    refine k_iload (pc := 96) z_m1 d_Mo_token_96 ?_
                    refine k_imul (pc := 98) d_Mo_token_98 ?_
                    refine k_iload (pc := 99) z_m0 d_Mo_token_99 ?_
                    refine k_iadd (pc := 101) d_Mo_token_101 ?_
                    refine k_iconst (pc := 102) (zi_lit rfl) d_Mo_token_102 ?_
                    refine k_isub (pc := 103) d_Mo_token_103 ?_
                    obtain ⟨v10, e_v10, hf⟩ := z_bd hf
                    refine k_iald (pc := 104) d_Mo_token_104 e_v10 ?_
                    refine k_goto (pc := 105) (tgt := 114) d_Mo_token_105 rfl ?_
                    cases hf
                    exact k_iret (pc := 114) d_Mo_token_114 rfl
                · refine k_ic_ne_t (pc := 78) (tgt := 108) w12 d_Mo_token_78 rfl ?_
                  refine k_aload_n (pc := 108) rfl z_m2 d_Mo_token_108 ?_
                  refine k_iload (pc := 109) z_m1 d_Mo_token_109 ?_
                  obtain ⟨n7, e_n7, hf⟩ := z_bd hf
                  obtain ⟨q8, e_q8, hf⟩ := z_bd hf
                  refine k_callVi (pc := 111) (as := [(0, zw ((zw (24 * a1)) + a2))]) (rest := []) d_Mo_token_111 cw_Mo_token_285 rfl (Nat.le_of_ble_eq_true rfl) (z_ck_of e_n7) (t_Mo_colour e_q8) ?_
                  cases hf
                  exact k_iret (pc := 114) d_Mo_token_114 rfl
          · refine k_ic_lt_f (pc := 30) (tgt := 35) w17 d_Mo_token_30 rfl ?_
            refine k_iconst (pc := 33) (zi_lit rfl) d_Mo_token_33 ?_
            cases hf
            exact k_iret (pc := 34) d_Mo_token_34 rfl
        · refine k_ic_le_f (pc := 18) (tgt := 23) w18 d_Mo_token_18 rfl ?_
          refine k_iconst (pc := 21) (zi_lit rfl) d_Mo_token_21 ?_
          cases hf
          exact k_iret (pc := 22) d_Mo_token_22 rfl
theorem t_Mo_token {a0 : Nat} {a1 : Int} {a2 : Int} {a3 : Int} {h : zH} {r : Int × zH} (hf : f_Mo_token a0 a1 a2 a3 h = some r) : zMt m_Mo_token [(2, ((a0 : Nat) : Int)), (0, a1), (0, a2), (0, a3)] h (some (0, r.1), r.2) := zMt.of (by decide) (Nat.le_of_ble_eq_true rfl) (b_Mo_token_0 a0 a1 a2 a3 h r hf)
theorem b_Mo_marked_0 (a0 : Nat) (a1 : Int) (h : zH) (r : Int × zH) (hf : f_Mo_marked a0 a1 h = some r) : zK m_Mo_marked 0 [(0, (2, ((a0 : Nat) : Int))), (1, (0, a1))] [] h (some (0, r.1), r.2) := by
  unfold f_Mo_marked at hf
  refine k_aload_n (pc := 0) rfl z_m0 d_Mo_marked_0 ?_
  refine k_iload_n (pc := 1) rfl z_m1 d_Mo_marked_1 ?_
  obtain ⟨n1, e_n1, hf⟩ := z_bd hf
  obtain ⟨q2, e_q2, hf⟩ := z_bd hf
  refine k_callVi (pc := 2) (as := [(0, a1)]) (rest := []) d_Mo_marked_2 cw_Mo_marked_279 rfl (Nat.le_of_ble_eq_true rfl) (z_ck_of e_n1) (t_Mo_isLine e_q2) ?_
  rcases z_it hf with ⟨w6, hf⟩ | ⟨w6, hf⟩
  · refine k_if_eq_t (pc := 5) (tgt := 21) w6 d_Mo_marked_5 rfl ?_
    refine k_iconst (pc := 21) (zi_lit rfl) d_Mo_marked_21 ?_
    cases hf
    exact k_zret (pc := 22) d_Mo_marked_22 rfl (Or.inl rfl)
  · refine k_if_eq_f (pc := 5) (tgt := 21) w6 d_Mo_marked_5 rfl ?_
    refine k_aload_n (pc := 8) rfl z_m0 d_Mo_marked_8 ?_
    obtain ⟨v3, e_v3, hf⟩ := z_bd hf
    refine k_getR (pc := 9) d_Mo_marked_9 fd_Mo_83 rfl e_v3 ?_
    refine k_iload_n (pc := 12) rfl z_m1 d_Mo_marked_12 ?_
    obtain ⟨v4, e_v4, hf⟩ := z_bd hf
    refine k_zald (pc := 13) d_Mo_marked_13 e_v4 ?_
    rcases z_it hf with ⟨w5, hf⟩ | ⟨w5, hf⟩
    · refine k_if_eq_t (pc := 14) (tgt := 21) w5 d_Mo_marked_14 rfl ?_
      refine k_iconst (pc := 21) (zi_lit rfl) d_Mo_marked_21 ?_
      cases hf
      exact k_zret (pc := 22) d_Mo_marked_22 rfl (Or.inl rfl)
    · refine k_if_eq_f (pc := 14) (tgt := 21) w5 d_Mo_marked_14 rfl ?_
      refine k_iconst (pc := 17) (zi_lit rfl) d_Mo_marked_17 ?_
      refine k_goto (pc := 18) (tgt := 22) d_Mo_marked_18 rfl ?_
      cases hf
      exact k_zret (pc := 22) d_Mo_marked_22 rfl (Or.inr rfl)
theorem t_Mo_marked {a0 : Nat} {a1 : Int} {h : zH} {r : Int × zH} (hf : f_Mo_marked a0 a1 h = some r) : zMt m_Mo_marked [(2, ((a0 : Nat) : Int)), (0, a1)] h (some (0, r.1), r.2) := zMt.of (by decide) (Nat.le_of_ble_eq_true rfl) (b_Mo_marked_0 a0 a1 h r hf)
theorem b_Mo_state_0 (a0 : Nat) (a1 : Int) (a2 : Int) (h : zH) (r : Int × zH) (hf : f_Mo_state a0 a1 a2 h = some r) : zK m_Mo_state 0 [(0, (2, ((a0 : Nat) : Int))), (1, (0, a1)), (2, (0, a2))] [] h (some (0, r.1), r.2) := by
  unfold f_Mo_state at hf
  refine k_aload_n (pc := 0) rfl z_m0 d_Mo_state_0 ?_
  refine k_iload_n (pc := 1) rfl z_m1 d_Mo_state_1 ?_
  obtain ⟨n1, e_n1, hf⟩ := z_bd hf
  obtain ⟨q2, e_q2, hf⟩ := z_bd hf
  refine k_callVi (pc := 2) (as := [(0, a1)]) (rest := []) d_Mo_state_2 cw_Mo_state_279 rfl (Nat.le_of_ble_eq_true rfl) (z_ck_of e_n1) (t_Mo_isLine e_q2) ?_
  rcases z_it hf with ⟨w12, hf⟩ | ⟨w12, hf⟩
  · refine k_if_eq_t (pc := 5) (tgt := 13) w12 d_Mo_state_5 rfl ?_
    refine k_iconst (pc := 13) (zi_lit rfl) d_Mo_state_13 ?_
    cases hf
    exact k_iret (pc := 14) d_Mo_state_14 rfl
  · refine k_if_eq_f (pc := 5) (tgt := 13) w12 d_Mo_state_5 rfl ?_
    refine k_iload_n (pc := 8) rfl z_m2 d_Mo_state_8 ?_
    refine k_iconst (pc := 9) (zi_lit rfl) d_Mo_state_9 ?_
    rcases z_it hf with ⟨w11, hf⟩ | ⟨w11, hf⟩
    · refine k_ic_ge_t (pc := 10) (tgt := 15) w11 d_Mo_state_10 rfl ?_
      refine k_iload_n (pc := 15) rfl z_m2 d_Mo_state_15 ?_
      rcases z_it hf with ⟨w10, hf⟩ | ⟨w10, hf⟩
      · refine k_if_ge_t (pc := 16) (tgt := 28) w10 d_Mo_state_16 rfl ?_
        refine k_iload_n (pc := 28) rfl z_m2 d_Mo_state_28 ?_
        refine k_aload_n (pc := 29) rfl z_m0 d_Mo_state_29 ?_
        obtain ⟨v3, e_v3, hf⟩ := z_bd hf
        refine k_getR (pc := 30) d_Mo_state_30 fd_Mo_98 rfl e_v3 ?_
        refine k_iload_n (pc := 33) rfl z_m1 d_Mo_state_33 ?_
        obtain ⟨v4, e_v4, hf⟩ := z_bd hf
        refine k_iald (pc := 34) d_Mo_state_34 e_v4 ?_
        rcases z_it hf with ⟨w7, hf⟩ | ⟨w7, hf⟩
        · refine k_ic_ge_t (pc := 35) (tgt := 51) w7 d_Mo_state_35 rfl ?_
          refine k_iconst (pc := 51) (zi_lit rfl) d_Mo_state_51 ?_
          cases hf
          exact k_iret (pc := 52) d_Mo_state_52 rfl
        · refine k_ic_ge_f (pc := 35) (tgt := 51) w7 d_Mo_state_35 rfl ?_
          refine k_aload_n (pc := 38) rfl z_m0 d_Mo_state_38 ?_
          obtain ⟨v5, e_v5, hf⟩ := z_bd hf
          refine k_getR (pc := 39) d_Mo_state_39 fd_Mo_101 rfl e_v5 ?_
          refine k_iconst (pc := 42) (zi_lit rfl) d_Mo_state_42 ?_
          refine k_iload_n (pc := 43) rfl z_m1 d_Mo_state_43 ?_
          refine k_imul (pc := 44) d_Mo_state_44 ?_
          refine k_iload_n (pc := 45) rfl z_m2 d_Mo_state_45 ?_
          refine k_iadd (pc := 46) d_Mo_state_46 ?_
          obtain ⟨v6, e_v6, hf⟩ := z_bd hf
          refine k_iald (pc := 47) d_Mo_state_47 e_v6 ?_
          refine k_goto (pc := 48) (tgt := 52) d_Mo_state_48 rfl ?_
          cases hf
          exact k_iret (pc := 52) d_Mo_state_52 rfl
      · refine k_if_ge_f (pc := 16) (tgt := 28) w10 d_Mo_state_16 rfl ?_
        refine k_aload_n (pc := 19) rfl z_m0 d_Mo_state_19 ?_
        obtain ⟨v8, e_v8, hf⟩ := z_bd hf
        refine k_getR (pc := 20) d_Mo_state_20 fd_Mo_98 rfl e_v8 ?_
        refine k_iload_n (pc := 23) rfl z_m1 d_Mo_state_23 ?_
        obtain ⟨v9, e_v9, hf⟩ := z_bd hf
        refine k_iald (pc := 24) d_Mo_state_24 e_v9 ?_
        refine k_goto (pc := 25) (tgt := 52) d_Mo_state_25 rfl ?_
        cases hf
        exact k_iret (pc := 52) d_Mo_state_52 rfl
    · refine k_ic_ge_f (pc := 10) (tgt := 15) w11 d_Mo_state_10 rfl ?_
      refine k_iconst (pc := 13) (zi_lit rfl) d_Mo_state_13 ?_
      cases hf
      exact k_iret (pc := 14) d_Mo_state_14 rfl
theorem t_Mo_state {a0 : Nat} {a1 : Int} {a2 : Int} {h : zH} {r : Int × zH} (hf : f_Mo_state a0 a1 a2 h = some r) : zMt m_Mo_state [(2, ((a0 : Nat) : Int)), (0, a1), (0, a2)] h (some (0, r.1), r.2) := zMt.of (by decide) (Nat.le_of_ble_eq_true rfl) (b_Mo_state_0 a0 a1 a2 h r hf)
theorem b_Mo_text_0 (a0 : Nat) (a1 : Int) (a2 : Int) (a3 : Int) (h : zH) (r : Int × zH) (hf : f_Mo_text a0 a1 a2 a3 h = some r) : zK m_Mo_text 0 [(0, (2, ((a0 : Nat) : Int))), (1, (0, a1)), (2, (0, a2)), (3, (0, a3))] [] h (some (0, r.1), r.2) := by
  unfold f_Mo_text at hf
  refine k_aload_n (pc := 0) rfl z_m0 d_Mo_text_0 ?_
  refine k_iload_n (pc := 1) rfl z_m1 d_Mo_text_1 ?_
  obtain ⟨n1, e_n1, hf⟩ := z_bd hf
  obtain ⟨q2, e_q2, hf⟩ := z_bd hf
  refine k_callVi (pc := 2) (as := [(0, a1)]) (rest := []) d_Mo_text_2 cw_Mo_text_279 rfl (Nat.le_of_ble_eq_true rfl) (z_ck_of e_n1) (t_Mo_isLine e_q2) ?_
  rcases z_it hf with ⟨w11, hf⟩ | ⟨w11, hf⟩
  · refine k_if_eq_t (pc := 5) (tgt := 22) w11 d_Mo_text_5 rfl ?_
    refine k_iconst (pc := 22) (zi_lit rfl) d_Mo_text_22 ?_
    cases hf
    exact k_iret (pc := 23) d_Mo_text_23 rfl
  · refine k_if_eq_f (pc := 5) (tgt := 22) w11 d_Mo_text_5 rfl ?_
    refine k_iload_n (pc := 8) rfl z_m2 d_Mo_text_8 ?_
    rcases z_it hf with ⟨w10, hf⟩ | ⟨w10, hf⟩
    · refine k_if_lt_t (pc := 9) (tgt := 22) w10 d_Mo_text_9 rfl ?_
      refine k_iconst (pc := 22) (zi_lit rfl) d_Mo_text_22 ?_
      cases hf
      exact k_iret (pc := 23) d_Mo_text_23 rfl
    · refine k_if_lt_f (pc := 9) (tgt := 22) w10 d_Mo_text_9 rfl ?_
      refine k_iload_n (pc := 12) rfl z_m3 d_Mo_text_12 ?_
      refine k_iconst (pc := 13) (zi_lit rfl) d_Mo_text_13 ?_
      rcases z_it hf with ⟨w9, hf⟩ | ⟨w9, hf⟩
      · refine k_ic_lt_t (pc := 14) (tgt := 22) w9 d_Mo_text_14 rfl ?_
        refine k_iconst (pc := 22) (zi_lit rfl) d_Mo_text_22 ?_
        cases hf
        exact k_iret (pc := 23) d_Mo_text_23 rfl
      · refine k_ic_lt_f (pc := 14) (tgt := 22) w9 d_Mo_text_14 rfl ?_
        refine k_iload_n (pc := 17) rfl z_m3 d_Mo_text_17 ?_
        refine k_iconst (pc := 18) (zi_lit rfl) d_Mo_text_18 ?_
        rcases z_it hf with ⟨w8, hf⟩ | ⟨w8, hf⟩
        · refine k_ic_le_t (pc := 19) (tgt := 24) w8 d_Mo_text_19 rfl ?_
          refine k_iload_n (pc := 24) rfl z_m2 d_Mo_text_24 ?_
          refine k_aload_n (pc := 25) rfl z_m0 d_Mo_text_25 ?_
          obtain ⟨v3, e_v3, hf⟩ := z_bd hf
          refine k_getR (pc := 26) d_Mo_text_26 fd_Mo_98 rfl e_v3 ?_
          refine k_iload_n (pc := 29) rfl z_m1 d_Mo_text_29 ?_
          obtain ⟨v4, e_v4, hf⟩ := z_bd hf
          refine k_iald (pc := 30) d_Mo_text_30 e_v4 ?_
          rcases z_it hf with ⟨w7, hf⟩ | ⟨w7, hf⟩
          · refine k_ic_ge_t (pc := 31) (tgt := 54) w7 d_Mo_text_31 rfl ?_
            refine k_iconst (pc := 54) (zi_lit rfl) d_Mo_text_54 ?_
            cases hf
            exact k_iret (pc := 55) d_Mo_text_55 rfl
          · refine k_ic_ge_f (pc := 31) (tgt := 54) w7 d_Mo_text_31 rfl ?_
            refine k_aload_n (pc := 34) rfl z_m0 d_Mo_text_34 ?_
            obtain ⟨v5, e_v5, hf⟩ := z_bd hf
            refine k_getR (pc := 35) d_Mo_text_35 fd_Mo_104 rfl e_v5 ?_
            refine k_bipush (pc := 38) (zi_lit rfl) (by decide) d_Mo_text_38 ?_
            refine k_iload_n (pc := 40) rfl z_m1 d_Mo_text_40 ?_
            refine k_imul (pc := 41) d_Mo_text_41 ?_
            refine k_iconst (pc := 42) (zi_lit rfl) d_Mo_text_42 ?_
            refine k_iload_n (pc := 43) rfl z_m2 d_Mo_text_43 ?_
            refine k_imul (pc := 44) d_Mo_text_44 ?_
            refine k_iadd (pc := 45) d_Mo_text_45 ?_
            refine k_iload_n (pc := 46) rfl z_m3 d_Mo_text_46 ?_
            refine k_iadd (pc := 47) d_Mo_text_47 ?_
            refine k_iconst (pc := 48) (zi_lit rfl) d_Mo_text_48 ?_
            refine k_isub (pc := 49) d_Mo_text_49 ?_
            obtain ⟨v6, e_v6, hf⟩ := z_bd hf
            refine k_iald (pc := 50) d_Mo_text_50 e_v6 ?_
            refine k_goto (pc := 51) (tgt := 55) d_Mo_text_51 rfl ?_
            cases hf
            exact k_iret (pc := 55) d_Mo_text_55 rfl
        · refine k_ic_le_f (pc := 19) (tgt := 24) w8 d_Mo_text_19 rfl ?_
          refine k_iconst (pc := 22) (zi_lit rfl) d_Mo_text_22 ?_
          cases hf
          exact k_iret (pc := 23) d_Mo_text_23 rfl
theorem t_Mo_text {a0 : Nat} {a1 : Int} {a2 : Int} {a3 : Int} {h : zH} {r : Int × zH} (hf : f_Mo_text a0 a1 a2 a3 h = some r) : zMt m_Mo_text [(2, ((a0 : Nat) : Int)), (0, a1), (0, a2), (0, a3)] h (some (0, r.1), r.2) := zMt.of (by decide) (Nat.le_of_ble_eq_true rfl) (b_Mo_text_0 a0 a1 a2 a3 h r hf)
theorem b_Mo_find_85 (a0 : Nat) (h : zH) (r : Int × zH) (hf : f_Mo_find_85 a0 h = some r) : zK m_Mo_find 85 [(0, (2, ((a0 : Nat) : Int)))] [] h (some (0, r.1), r.2) := by
  unfold f_Mo_find_85 at hf
  refine k_aload_n (pc := 85) rfl z_m0 d_Mo_find_85 ?_
  obtain ⟨v1, e_v1, hf⟩ := z_bd hf
  refine k_getI (pc := 86) d_Mo_find_86 fd_Mo_169 rfl e_v1 ?_
  rcases z_it hf with ⟨w2, hf⟩ | ⟨w2, hf⟩
  · refine k_if_eq_t (pc := 89) (tgt := 97) w2 d_Mo_find_89 rfl ?_
    refine k_iconst (pc := 97) (zi_lit rfl) d_Mo_find_97 ?_
    cases hf
    exact k_iret (pc := 98) d_Mo_find_98 rfl
  · refine k_if_eq_f (pc := 89) (tgt := 97) w2 d_Mo_find_89 rfl ?_
    refine k_bipush (pc := 92) (zi_lit rfl) (by decide) d_Mo_find_92 ?_
    refine k_goto (pc := 94) (tgt := 98) d_Mo_find_94 rfl ?_
    cases hf
    exact k_iret (pc := 98) d_Mo_find_98 rfl
theorem b_Mo_find_0 (a0 : Nat) (a1 : Int) (a2 : Int) (a3 : Int) (a4 : Int) (h : zH) (r : Int × zH) (hf : f_Mo_find a0 a1 a2 a3 a4 h = some r) : zK m_Mo_find 0 [(0, (2, ((a0 : Nat) : Int))), (1, (0, a1)), (2, (0, a2)), (3, (0, a3)), (4, (0, a4))] [] h (some (0, r.1), r.2) := by
  unfold f_Mo_find at hf
  refine k_iload_n (pc := 0) rfl z_m1 d_Mo_find_0 ?_
  refine k_iconst (pc := 1) (zi_lit rfl) d_Mo_find_1 ?_
  rcases z_it hf with ⟨w28, hf⟩ | ⟨w28, hf⟩
  · refine k_ic_lt_t (pc := 2) (tgt := 37) w28 d_Mo_find_2 rfl ?_
    refine k_iconst (pc := 37) (zi_lit rfl) d_Mo_find_37 ?_
    cases hf
    exact k_iret (pc := 38) d_Mo_find_38 rfl
  · refine k_ic_lt_f (pc := 2) (tgt := 37) w28 d_Mo_find_2 rfl ?_
    refine k_iload_n (pc := 5) rfl z_m1 d_Mo_find_5 ?_
    refine k_aload_n (pc := 6) rfl z_m0 d_Mo_find_6 ?_
    obtain ⟨v3, e_v3, hf⟩ := z_bd hf
    refine k_getI (pc := 7) d_Mo_find_7 fd_Mo_203 rfl e_v3 ?_
    rcases z_it hf with ⟨w27, hf⟩ | ⟨w27, hf⟩
    · refine k_ic_gt_t (pc := 10) (tgt := 37) w27 d_Mo_find_10 rfl ?_
      refine k_iconst (pc := 37) (zi_lit rfl) d_Mo_find_37 ?_
      cases hf
      exact k_iret (pc := 38) d_Mo_find_38 rfl
    · refine k_ic_gt_f (pc := 10) (tgt := 37) w27 d_Mo_find_10 rfl ?_
      refine k_aload_n (pc := 13) rfl z_m0 d_Mo_find_13 ?_
      refine k_iload_n (pc := 14) rfl z_m2 d_Mo_find_14 ?_
      obtain ⟨n4, e_n4, hf⟩ := z_bd hf
      obtain ⟨q5, e_q5, hf⟩ := z_bd hf
      refine k_callVi (pc := 15) (as := [(0, a2)]) (rest := []) d_Mo_find_15 cw_Mo_find_279 rfl (Nat.le_of_ble_eq_true rfl) (z_ck_of e_n4) (t_Mo_isLine e_q5) ?_
      rcases z_it hf with ⟨w26, hf⟩ | ⟨w26, hf⟩
      · refine k_if_eq_t (pc := 18) (tgt := 37) w26 d_Mo_find_18 rfl ?_
        refine k_iconst (pc := 37) (zi_lit rfl) d_Mo_find_37 ?_
        cases hf
        exact k_iret (pc := 38) d_Mo_find_38 rfl
      · refine k_if_eq_f (pc := 18) (tgt := 37) w26 d_Mo_find_18 rfl ?_
        refine k_iload_n (pc := 21) rfl z_m3 d_Mo_find_21 ?_
        rcases z_it hf with ⟨w25, hf⟩ | ⟨w25, hf⟩
        · refine k_if_lt_t (pc := 22) (tgt := 37) w25 d_Mo_find_22 rfl ?_
          refine k_iconst (pc := 37) (zi_lit rfl) d_Mo_find_37 ?_
          cases hf
          exact k_iret (pc := 38) d_Mo_find_38 rfl
        · refine k_if_lt_f (pc := 22) (tgt := 37) w25 d_Mo_find_22 rfl ?_
          refine k_iload (pc := 25) z_m4 d_Mo_find_25 ?_
          rcases z_it hf with ⟨w24, hf⟩ | ⟨w24, hf⟩
          · refine k_if_lt_t (pc := 27) (tgt := 37) w24 d_Mo_find_27 rfl ?_
            refine k_iconst (pc := 37) (zi_lit rfl) d_Mo_find_37 ?_
            cases hf
            exact k_iret (pc := 38) d_Mo_find_38 rfl
          · refine k_if_lt_f (pc := 27) (tgt := 37) w24 d_Mo_find_27 rfl ?_
            refine k_iload (pc := 30) z_m4 d_Mo_find_30 ?_
            refine k_bipush (pc := 32) (zi_lit rfl) (by decide) d_Mo_find_32 ?_
            rcases z_it hf with ⟨w23, hf⟩ | ⟨w23, hf⟩
            · refine k_ic_le_t (pc := 34) (tgt := 39) w23 d_Mo_find_34 rfl ?_
              refine k_iload_n (pc := 39) rfl z_m3 d_Mo_find_39 ?_
              refine k_aload_n (pc := 40) rfl z_m0 d_Mo_find_40 ?_
              obtain ⟨v6, e_v6, hf⟩ := z_bd hf
              refine k_getR (pc := 41) d_Mo_find_41 fd_Mo_77 rfl e_v6 ?_
              refine k_iload_n (pc := 44) rfl z_m2 d_Mo_find_44 ?_
              obtain ⟨v7, e_v7, hf⟩ := z_bd hf
              refine k_iald (pc := 45) d_Mo_find_45 e_v7 ?_
              rcases z_it hf with ⟨w22, hf⟩ | ⟨w22, hf⟩
              · refine k_ic_le_t (pc := 46) (tgt := 51) w22 d_Mo_find_46 rfl ?_
                refine k_aload_n (pc := 51) rfl z_m0 d_Mo_find_51 ?_
                refine k_iconst (pc := 52) (zi_lit rfl) d_Mo_find_52 ?_
                refine k_iload_n (pc := 53) rfl z_m1 d_Mo_find_53 ?_
                refine k_imul (pc := 54) d_Mo_find_54 ?_
                refine k_iload_n (pc := 55) rfl z_m2 d_Mo_find_55 ?_
                refine k_iload_n (pc := 56) rfl z_m3 d_Mo_find_56 ?_
                obtain ⟨n8, e_n8, hf⟩ := z_bd hf
                obtain ⟨h9, e_h9, hf⟩ := z_bd hf
                refine k_callVv (pc := 57) (as := [(0, zw (2 * a1)), (0, a2), (0, a3)]) (rest := []) d_Mo_find_57 cw_Mo_find_216 rfl (Nat.le_of_ble_eq_true rfl) (z_ck_of e_n8) (t_Mo_search e_h9) ?_
                refine k_iload (pc := 60) z_m4 d_Mo_find_60 ?_
                refine k_iconst (pc := 62) (zi_lit rfl) d_Mo_find_62 ?_
                rcases z_it hf with ⟨w21, hf⟩ | ⟨w21, hf⟩
                · refine k_ic_ne_f (pc := 63) (tgt := 71) w21 d_Mo_find_63 rfl ?_
                  refine k_aload_n (pc := 66) rfl z_m0 d_Mo_find_66 ?_
                  obtain ⟨v20, e_v20, hf⟩ := z_bd hf
                  refine k_getI (pc := 67) d_Mo_find_67 fd_Mo_166 rfl e_v20 ?_
                  cases hf
                  exact k_iret (pc := 70) d_Mo_find_70 rfl
                · refine k_ic_ne_t (pc := 63) (tgt := 71) w21 d_Mo_find_63 rfl ?_
                  refine k_aload_n (pc := 71) rfl z_m0 d_Mo_find_71 ?_
                  obtain ⟨v10, e_v10, hf⟩ := z_bd hf
                  refine k_getI (pc := 72) d_Mo_find_72 fd_Mo_169 rfl e_v10 ?_
                  rcases z_it hf with ⟨w19, hf⟩ | ⟨w19, hf⟩
                  · refine k_if_ne_f (pc := 75) (tgt := 85) w19 d_Mo_find_75 rfl ?_
                    refine k_aload_n (pc := 78) rfl z_m0 d_Mo_find_78 ?_
                    obtain ⟨v11, e_v11, hf⟩ := z_bd hf
                    refine k_getI (pc := 79) d_Mo_find_79 fd_Mo_194 rfl e_v11 ?_
                    rcases z_it hf with ⟨w18, hf⟩ | ⟨w18, hf⟩
                    · refine k_if_ge_t (pc := 82) (tgt := 99) w18 d_Mo_find_82 rfl ?_
                      refine k_iload (pc := 99) z_m4 d_Mo_find_99 ?_
                      rcases z_it hf with ⟨w17, hf⟩ | ⟨w17, hf⟩
                      · refine k_if_ne_f (pc := 101) (tgt := 111) w17 d_Mo_find_101 rfl ?_
                        refine k_aload_n (pc := 104) rfl z_m0 d_Mo_find_104 ?_
                        obtain ⟨v16, e_v16, hf⟩ := z_bd hf
                        refine k_getI (pc := 105) d_Mo_find_105 fd_Mo_194 rfl e_v16 ?_
                        refine k_goto (pc := 108) (tgt := 133) d_Mo_find_108 rfl ?_
                        cases hf
                        exact k_iret (pc := 133) d_Mo_find_133 rfl
                      · refine k_if_ne_t (pc := 101) (tgt := 111) w17 d_Mo_find_101 rfl ?_
                        refine k_iload (pc := 111) z_m4 d_Mo_find_111 ?_
                        refine k_iconst (pc := 113) (zi_lit rfl) d_Mo_find_113 ?_
                        rcases z_it hf with ⟨w15, hf⟩ | ⟨w15, hf⟩
                        · refine k_ic_ne_f (pc := 114) (tgt := 124) w15 d_Mo_find_114 rfl ?_
                          refine k_aload_n (pc := 117) rfl z_m0 d_Mo_find_117 ?_
                          obtain ⟨v14, e_v14, hf⟩ := z_bd hf
                          refine k_getI (pc := 118) d_Mo_find_118 fd_Mo_191 rfl e_v14 ?_
                          refine k_goto (pc := 121) (tgt := 133) d_Mo_find_121 rfl ?_
                          cases hf
                          exact k_iret (pc := 133) d_Mo_find_133 rfl
                        · refine k_ic_ne_t (pc := 114) (tgt := 124) w15 d_Mo_find_114 rfl ?_
                          refine k_aload_n (pc := 124) rfl z_m0 d_Mo_find_124 ?_
                          obtain ⟨v12, e_v12, hf⟩ := z_bd hf
                          refine k_getR (pc := 125) d_Mo_find_125 fd_Mo_65 rfl e_v12 ?_
                          refine k_iload (pc := 128) z_m4 d_Mo_find_128 ?_
                          refine k_iconst (pc := 130) (zi_lit rfl) d_Mo_find_130 ?_
                          refine k_isub (pc := 131) d_Mo_find_131 ?_
                          obtain ⟨v13, e_v13, hf⟩ := z_bd hf
                          refine k_iald (pc := 132) d_Mo_find_132 e_v13 ?_
                          cases hf
                          exact k_iret (pc := 133) d_Mo_find_133 rfl
                    · refine k_if_ge_f (pc := 82) (tgt := 99) w18 d_Mo_find_82 rfl ?_
                      refine k_sub [0] rfl ?_
                      exact b_Mo_find_85 a0 h9 _ hf
                  · refine k_if_ne_t (pc := 75) (tgt := 85) w19 d_Mo_find_75 rfl ?_
                    refine k_sub [0] rfl ?_
                    exact b_Mo_find_85 a0 h9 _ hf
              · refine k_ic_le_f (pc := 46) (tgt := 51) w22 d_Mo_find_46 rfl ?_
                refine k_iconst (pc := 49) (zi_lit rfl) d_Mo_find_49 ?_
                cases hf
                exact k_iret (pc := 50) d_Mo_find_50 rfl
            · refine k_ic_le_f (pc := 34) (tgt := 39) w23 d_Mo_find_34 rfl ?_
              refine k_iconst (pc := 37) (zi_lit rfl) d_Mo_find_37 ?_
              cases hf
              exact k_iret (pc := 38) d_Mo_find_38 rfl
theorem t_Mo_find {a0 : Nat} {a1 : Int} {a2 : Int} {a3 : Int} {a4 : Int} {h : zH} {r : Int × zH} (hf : f_Mo_find a0 a1 a2 a3 a4 h = some r) : zMt m_Mo_find [(2, ((a0 : Nat) : Int)), (0, a1), (0, a2), (0, a3), (0, a4)] h (some (0, r.1), r.2) := zMt.of (by decide) (Nat.le_of_ble_eq_true rfl) (b_Mo_find_0 a0 a1 a2 a3 a4 h r hf)
theorem b_Lw_cell_0 (a1 : Int) (h : zH) (r : Int × zH) (hf : f_Lw_cell a1 h = some r) : zK m_Lw_cell 0 [(0, (3, 0)), (1, (0, a1))] [] h (some (0, r.1), r.2) := by
  unfold f_Lw_cell at hf
  refine k_iload_n (pc := 0) rfl z_m1 d_Lw_cell_0 ?_
  refine k_aload_s (pc := 1) rfl z_m0 d_Lw_cell_1 ?_
  obtain ⟨v1, e_v1, hf⟩ := z_bd hf
  refine k_slen (pc := 2) d_Lw_cell_2 e_v1 ?_
  rcases z_it hf with ⟨w3, hf⟩ | ⟨w3, hf⟩
  · refine k_ic_ge_t (pc := 3) (tgt := 12) w3 d_Lw_cell_3 rfl ?_
    refine k_iconst (pc := 12) (zi_lit rfl) d_Lw_cell_12 ?_
    cases hf
    exact k_iret (pc := 13) d_Lw_cell_13 rfl
  · refine k_ic_ge_f (pc := 3) (tgt := 12) w3 d_Lw_cell_3 rfl ?_
    refine k_aload_s (pc := 6) rfl z_m0 d_Lw_cell_6 ?_
    refine k_iload_n (pc := 7) rfl z_m1 d_Lw_cell_7 ?_
    obtain ⟨v2, e_v2, hf⟩ := z_bd hf
    refine k_sld (pc := 8) d_Lw_cell_8 e_v2 ?_
    refine k_goto (pc := 9) (tgt := 13) d_Lw_cell_9 rfl ?_
    cases hf
    exact k_iret (pc := 13) d_Lw_cell_13 rfl
theorem t_Lw_cell {a1 : Int} {h : zH} {r : Int × zH} (hf : f_Lw_cell a1 h = some r) : zMt m_Lw_cell [(3, 0), (0, a1)] h (some (0, r.1), r.2) := zMt.of (by decide) (Nat.le_of_ble_eq_true rfl) (b_Lw_cell_0 a1 h r hf)
