/-! The bytecode comes to what the functions answer; printed by wip/gen/gen.py -/
theorem b_SL_theme_0 (a0 : Nat) (a1 : Int) (a2 : Int) (a3 : Int) (h : zH) (r : Int × zH) (hf : f_SL_theme a0 a1 a2 a3 h = some r) : zK m_SL_theme 0 [(0, (2, ((a0 : Nat) : Int))), (1, (0, a1)), (2, (0, a2)), (3, (0, a3))] [] h (some (0, r.1), r.2) := by
  unfold f_SL_theme at hf
  refine k_iload_n (pc := 0) rfl z_m1 d_SL_theme_0 ?_
  obtain ⟨q1, e_q1, hf⟩ := z_bd hf
  refine k_callSi (pc := 1) (as := [(0, a1)]) (rest := []) d_SL_theme_1 cw_SL_theme_70 rfl (Nat.le_of_ble_eq_true rfl) (t_SL_isScope e_q1) ?_
  rcases z_it hf with ⟨w12, hf⟩ | ⟨w12, hf⟩
  · refine k_if_eq_t (pc := 4) (tgt := 17) w12 d_SL_theme_4 rfl ?_
    refine k_iconst (pc := 17) (zi_lit rfl) d_SL_theme_17 ?_
    cases hf
    exact k_zret (pc := 18) d_SL_theme_18 rfl (Or.inl rfl)
  · refine k_if_eq_f (pc := 4) (tgt := 17) w12 d_SL_theme_4 rfl ?_
    refine k_iload_n (pc := 7) rfl z_m2 d_SL_theme_7 ?_
    rcases z_it hf with ⟨w11, hf⟩ | ⟨w11, hf⟩
    · refine k_if_lt_t (pc := 8) (tgt := 17) w11 d_SL_theme_8 rfl ?_
      refine k_iconst (pc := 17) (zi_lit rfl) d_SL_theme_17 ?_
      cases hf
      exact k_zret (pc := 18) d_SL_theme_18 rfl (Or.inl rfl)
    · refine k_if_lt_f (pc := 8) (tgt := 17) w11 d_SL_theme_8 rfl ?_
      refine k_iload_n (pc := 11) rfl z_m2 d_SL_theme_11 ?_
      refine k_bipush (pc := 12) (zi_lit rfl) (by decide) d_SL_theme_12 ?_
      rcases z_it hf with ⟨w10, hf⟩ | ⟨w10, hf⟩
      · refine k_ic_le_t (pc := 14) (tgt := 19) w10 d_SL_theme_14 rfl ?_
        refine k_iload_n (pc := 19) rfl z_m3 d_SL_theme_19 ?_
        refine k_iconst (pc := 20) (zi_lit rfl) d_SL_theme_20 ?_
        rcases z_it hf with ⟨w9, hf⟩ | ⟨w9, hf⟩
        · refine k_ic_lt_t (pc := 21) (tgt := 43) w9 d_SL_theme_21 rfl ?_
          refine k_iconst (pc := 43) (zi_lit rfl) d_SL_theme_43 ?_
          cases hf
          exact k_zret (pc := 44) d_SL_theme_44 rfl (Or.inl rfl)
        · refine k_ic_lt_f (pc := 21) (tgt := 43) w9 d_SL_theme_21 rfl ?_
          refine k_iload_n (pc := 24) rfl z_m3 d_SL_theme_24 ?_
          refine k_sipush (pc := 25) (zi_lit rfl) (by decide) d_SL_theme_25 ?_
          rcases z_it hf with ⟨w8, hf⟩ | ⟨w8, hf⟩
          · refine k_ic_gt_t (pc := 28) (tgt := 43) w8 d_SL_theme_28 rfl ?_
            refine k_iconst (pc := 43) (zi_lit rfl) d_SL_theme_43 ?_
            cases hf
            exact k_zret (pc := 44) d_SL_theme_44 rfl (Or.inl rfl)
          · refine k_ic_gt_f (pc := 28) (tgt := 43) w8 d_SL_theme_28 rfl ?_
            refine k_aload_n (pc := 31) rfl z_m0 d_SL_theme_31 ?_
            obtain ⟨v2, e_v2, hf⟩ := z_bd hf
            refine k_getR (pc := 32) d_SL_theme_32 fd_SL_29 rfl e_v2 ?_
            obtain ⟨v3, e_v3, hf⟩ := z_bd hf
            refine k_getI (pc := 35) d_SL_theme_35 fd_SL_112 rfl e_v3 ?_
            refine k_bipush (pc := 38) (zi_lit rfl) (by decide) d_SL_theme_38 ?_
            rcases z_it hf with ⟨w7, hf⟩ | ⟨w7, hf⟩
            · refine k_ic_ne_f (pc := 40) (tgt := 45) w7 d_SL_theme_40 rfl ?_
              refine k_iconst (pc := 43) (zi_lit rfl) d_SL_theme_43 ?_
              cases hf
              exact k_zret (pc := 44) d_SL_theme_44 rfl (Or.inl rfl)
            · refine k_ic_ne_t (pc := 40) (tgt := 45) w7 d_SL_theme_40 rfl ?_
              refine k_aload_n (pc := 45) rfl z_m0 d_SL_theme_45 ?_
              obtain ⟨v4, e_v4, hf⟩ := z_bd hf
              refine k_getR (pc := 46) d_SL_theme_46 fd_SL_29 rfl e_v4 ?_
              refine k_iload_n (pc := 49) rfl z_m1 d_SL_theme_49 ?_
              refine k_iload_n (pc := 50) rfl z_m2 d_SL_theme_50 ?_
              refine k_iload_n (pc := 51) rfl z_m3 d_SL_theme_51 ?_
              obtain ⟨n5, e_n5, hf⟩ := z_bd hf
              obtain ⟨h6, e_h6, hf⟩ := z_bd hf
              refine k_callVv (pc := 52) (as := [(0, a1), (0, a2), (0, a3)]) (rest := []) d_SL_theme_52 cw_SL_theme_115 rfl (Nat.le_of_ble_eq_true rfl) (z_ck_of e_n5) (t_Pa_add e_h6) ?_
              refine k_iconst (pc := 55) (zi_lit rfl) d_SL_theme_55 ?_
              cases hf
              exact k_zret (pc := 56) d_SL_theme_56 rfl (Or.inr rfl)
      · refine k_ic_le_f (pc := 14) (tgt := 19) w10 d_SL_theme_14 rfl ?_
        refine k_iconst (pc := 17) (zi_lit rfl) d_SL_theme_17 ?_
        cases hf
        exact k_zret (pc := 18) d_SL_theme_18 rfl (Or.inl rfl)
theorem t_SL_theme {a0 : Nat} {a1 : Int} {a2 : Int} {a3 : Int} {h : zH} {r : Int × zH} (hf : f_SL_theme a0 a1 a2 a3 h = some r) : zMt m_SL_theme [(2, ((a0 : Nat) : Int)), (0, a1), (0, a2), (0, a3)] h (some (0, r.1), r.2) := zMt.of (by decide) (Nat.le_of_ble_eq_true rfl) (b_SL_theme_0 a0 a1 a2 a3 h r hf)
theorem b_Li_write_0 (a0 : Nat) (a1 : Nat) (a2 : Int) (h : zH) (r : zH) (hf : f_Li_write a0 a1 a2 h = some r) : zK m_Li_write 0 [(0, (2, ((a0 : Nat) : Int))), (1, (2, ((a1 : Nat) : Int))), (2, (0, a2))] [] h (none, r) := by
  unfold f_Li_write at hf
  refine k_aload_n (pc := 0) rfl z_m1 d_Li_write_0 ?_
  refine k_iconst (pc := 1) (zi_lit rfl) d_Li_write_1 ?_
  refine k_aload_n (pc := 2) rfl z_m0 d_Li_write_2 ?_
  obtain ⟨v1, e_v1, hf⟩ := z_bd hf
  refine k_getR (pc := 3) d_Li_write_3 fd_Li_9 rfl e_v1 ?_
  refine k_iconst (pc := 6) (zi_lit rfl) d_Li_write_6 ?_
  refine k_iload_n (pc := 7) rfl z_m2 d_Li_write_7 ?_
  obtain ⟨h2, e_h2, hf⟩ := z_bd hf
  refine k_copy (pc := 8) (Or.inr ⟨rfl, rfl⟩) d_Li_write_8 w_Li_32 w_cp1 w_cp2 w_sys (by decide) (Nat.le_of_ble_eq_true rfl) e_h2 ?_
  refine k_aload_n (pc := 11) rfl z_m0 d_Li_write_11 ?_
  refine k_iload_n (pc := 12) rfl z_m2 d_Li_write_12 ?_
  obtain ⟨h3, e_h3, hf⟩ := z_bd hf
  refine k_putI (pc := 13) d_Li_write_13 fd_Li_38 (fun q => by cases q) rfl e_h3 ?_
  cases hf
  exact k_ret (pc := 16) d_Li_write_16 rfl
theorem t_Li_write {a0 : Nat} {a1 : Nat} {a2 : Int} {h : zH} {r : zH} (hf : f_Li_write a0 a1 a2 h = some r) : zMt m_Li_write [(2, ((a0 : Nat) : Int)), (2, ((a1 : Nat) : Int)), (0, a2)] h (none, r) := zMt.of (by decide) (Nat.le_of_ble_eq_true rfl) (b_Li_write_0 a0 a1 a2 h r hf)
theorem b_SL_put_0 (a0 : Nat) (a1 : Int) (h : zH) (r : Int × zH) (hf : f_SL_put a0 a1 h = some r) : zK m_SL_put 0 [(0, (2, ((a0 : Nat) : Int))), (1, (0, a1))] [] h (some (0, r.1), r.2) := by
  unfold f_SL_put at hf
  refine k_iload_n (pc := 0) rfl z_m1 d_SL_put_0 ?_
  rcases z_it hf with ⟨w17, hf⟩ | ⟨w17, hf⟩
  · refine k_if_lt_t (pc := 1) (tgt := 12) w17 d_SL_put_1 rfl ?_
    refine k_iconst (pc := 12) (zi_lit rfl) d_SL_put_12 ?_
    cases hf
    exact k_iret (pc := 13) d_SL_put_13 rfl
  · refine k_if_lt_f (pc := 1) (tgt := 12) w17 d_SL_put_1 rfl ?_
    refine k_iload_n (pc := 4) rfl z_m1 d_SL_put_4 ?_
    refine k_aload_n (pc := 5) rfl z_m0 d_SL_put_5 ?_
    obtain ⟨v1, e_v1, hf⟩ := z_bd hf
    refine k_getI (pc := 6) d_SL_put_6 fd_SL_119 rfl e_v1 ?_
    rcases z_it hf with ⟨w16, hf⟩ | ⟨w16, hf⟩
    · refine k_ic_le_t (pc := 9) (tgt := 14) w16 d_SL_put_9 rfl ?_
      refine k_aload_n (pc := 14) rfl z_m0 d_SL_put_14 ?_
      obtain ⟨v2, e_v2, hf⟩ := z_bd hf
      refine k_getI (pc := 15) d_SL_put_15 fd_SL_62 rfl e_v2 ?_
      refine k_bipush (pc := 18) (zi_lit rfl) (by decide) d_SL_put_18 ?_
      rcases z_it hf with ⟨w15, hf⟩ | ⟨w15, hf⟩
      · refine k_ic_le_t (pc := 20) (tgt := 26) w15 d_SL_put_20 rfl ?_
        refine k_iload_n (pc := 26) rfl z_m1 d_SL_put_26 ?_
        refine k_bipush (pc := 27) (zi_lit rfl) (by decide) d_SL_put_27 ?_
        rcases z_it hf with ⟨w14, hf⟩ | ⟨w14, hf⟩
        · refine k_ic_ne_f (pc := 29) (tgt := 35) w14 d_SL_put_29 rfl ?_
          refine k_bipush (pc := 32) (zi_lit rfl) (by decide) d_SL_put_32 ?_
          cases hf
          exact k_iret (pc := 34) d_SL_put_34 rfl
        · refine k_ic_ne_t (pc := 29) (tgt := 35) w14 d_SL_put_29 rfl ?_
          refine k_aload_n (pc := 35) rfl z_m0 d_SL_put_35 ?_
          obtain ⟨v3, e_v3, hf⟩ := z_bd hf
          refine k_getR (pc := 36) d_SL_put_36 fd_SL_22 rfl e_v3 ?_
          refine k_iload_n (pc := 39) rfl z_m1 d_SL_put_39 ?_
          obtain ⟨v4, e_v4, hf⟩ := z_bd hf
          refine k_rald25 (pc := 40) d_SL_put_40 e_v4 ?_
          refine k_aload_n (pc := 41) rfl z_m0 d_SL_put_41 ?_
          obtain ⟨v5, e_v5, hf⟩ := z_bd hf
          refine k_getR (pc := 42) d_SL_put_42 fd_SL_9 rfl e_v5 ?_
          refine k_aload_n (pc := 45) rfl z_m0 d_SL_put_45 ?_
          obtain ⟨v6, e_v6, hf⟩ := z_bd hf
          refine k_getI (pc := 46) d_SL_put_46 fd_SL_62 rfl e_v6 ?_
          obtain ⟨n7, e_n7, hf⟩ := z_bd hf
          obtain ⟨h8, e_h8, hf⟩ := z_bd hf
          refine k_callVv (pc := 49) (as := [(2, ((v5 : Nat) : Int)), (0, v6)]) (rest := []) d_SL_put_49 cw_SL_put_122 rfl (Nat.le_of_ble_eq_true rfl) (z_ck_of e_n7) (t_Li_write e_h8) ?_
          refine k_aload_n (pc := 52) rfl z_m0 d_SL_put_52 ?_
          refine k_iconst (pc := 53) (zi_lit rfl) d_SL_put_53 ?_
          obtain ⟨h9, e_h9, hf⟩ := z_bd hf
          refine k_putI (pc := 54) d_SL_put_54 fd_SL_62 (fun q => by cases q) rfl e_h9 ?_
          refine k_aload_n (pc := 57) rfl z_m0 d_SL_put_57 ?_
          refine k_aload_n (pc := 58) rfl z_m0 d_SL_put_58 ?_
          obtain ⟨v10, e_v10, hf⟩ := z_bd hf
          refine k_getI (pc := 59) d_SL_put_59 fd_SL_119 rfl e_v10 ?_
          refine k_iload_n (pc := 62) rfl z_m1 d_SL_put_62 ?_
          refine k_iconst (pc := 63) (zi_lit rfl) d_SL_put_63 ?_
          refine k_iadd (pc := 64) d_SL_put_64 ?_
          refine k_max (pc := 65) d_SL_put_65 w_SL_51 w_max1 w_math w_max2 (by decide) (Nat.le_of_ble_eq_true rfl) ?_
          obtain ⟨h11, e_h11, hf⟩ := z_bd hf
          refine k_putI (pc := 68) d_SL_put_68 fd_SL_119 (fun q => by cases q) rfl e_h11 ?_
          refine k_aload_n (pc := 71) rfl z_m0 d_SL_put_71 ?_
          refine k_iload_n (pc := 72) rfl z_m1 d_SL_put_72 ?_
          refine k_iconst (pc := 73) (zi_lit rfl) d_SL_put_73 ?_
          obtain ⟨n12, e_n12, hf⟩ := z_bd hf
          obtain ⟨q13, e_q13, hf⟩ := z_bd hf
          refine k_callVi (pc := 74) (as := [(0, a1), (0, 0)]) (rest := []) d_SL_put_74 cw_SL_put_94 rfl (Nat.le_of_ble_eq_true rfl) (z_ck_of e_n12) (t_SL_tokenizeFrom e_q13) ?_
          cases hf
          exact k_iret (pc := 77) d_SL_put_77 rfl
      · refine k_ic_le_f (pc := 20) (tgt := 26) w15 d_SL_put_20 rfl ?_
        refine k_bipush (pc := 23) (zi_lit rfl) (by decide) d_SL_put_23 ?_
        cases hf
        exact k_iret (pc := 25) d_SL_put_25 rfl
    · refine k_ic_le_f (pc := 9) (tgt := 14) w16 d_SL_put_9 rfl ?_
      refine k_iconst (pc := 12) (zi_lit rfl) d_SL_put_12 ?_
      cases hf
      exact k_iret (pc := 13) d_SL_put_13 rfl
theorem t_SL_put {a0 : Nat} {a1 : Int} {h : zH} {r : Int × zH} (hf : f_SL_put a0 a1 h = some r) : zMt m_SL_put [(2, ((a0 : Nat) : Int)), (0, a1)] h (some (0, r.1), r.2) := zMt.of (by decide) (Nat.le_of_ble_eq_true rfl) (b_SL_put_0 a0 a1 h r hf)
theorem b_SL_isLine_0 (a0 : Nat) (a1 : Int) (h : zH) (r : Int × zH) (hf : f_SL_isLine a0 a1 h = some r) : zK m_SL_isLine 0 [(0, (2, ((a0 : Nat) : Int))), (1, (0, a1))] [] h (some (0, r.1), r.2) := by
  unfold f_SL_isLine at hf
  refine k_iload_n (pc := 0) rfl z_m1 d_SL_isLine_0 ?_
  rcases z_it hf with ⟨w3, hf⟩ | ⟨w3, hf⟩
  · refine k_if_lt_t (pc := 1) (tgt := 16) w3 d_SL_isLine_1 rfl ?_
    refine k_iconst (pc := 16) (zi_lit rfl) d_SL_isLine_16 ?_
    cases hf
    exact k_zret (pc := 17) d_SL_isLine_17 rfl (Or.inl rfl)
  · refine k_if_lt_f (pc := 1) (tgt := 16) w3 d_SL_isLine_1 rfl ?_
    refine k_iload_n (pc := 4) rfl z_m1 d_SL_isLine_4 ?_
    refine k_aload_n (pc := 5) rfl z_m0 d_SL_isLine_5 ?_
    obtain ⟨v1, e_v1, hf⟩ := z_bd hf
    refine k_getI (pc := 6) d_SL_isLine_6 fd_SL_119 rfl e_v1 ?_
    rcases z_it hf with ⟨w2, hf⟩ | ⟨w2, hf⟩
    · refine k_ic_ge_t (pc := 9) (tgt := 16) w2 d_SL_isLine_9 rfl ?_
      refine k_iconst (pc := 16) (zi_lit rfl) d_SL_isLine_16 ?_
      cases hf
      exact k_zret (pc := 17) d_SL_isLine_17 rfl (Or.inl rfl)
    · refine k_ic_ge_f (pc := 9) (tgt := 16) w2 d_SL_isLine_9 rfl ?_
      refine k_iconst (pc := 12) (zi_lit rfl) d_SL_isLine_12 ?_
      refine k_goto (pc := 13) (tgt := 17) d_SL_isLine_13 rfl ?_
      cases hf
      exact k_zret (pc := 17) d_SL_isLine_17 rfl (Or.inr rfl)
theorem t_SL_isLine {a0 : Nat} {a1 : Int} {h : zH} {r : Int × zH} (hf : f_SL_isLine a0 a1 h = some r) : zMt m_SL_isLine [(2, ((a0 : Nat) : Int)), (0, a1)] h (some (0, r.1), r.2) := zMt.of (by decide) (Nat.le_of_ble_eq_true rfl) (b_SL_isLine_0 a0 a1 h r hf)
theorem b_SL_drop_21 : ∀ (n : Nat) (a0 : Nat) (a1 : Int) (a2 : Nat) (a3 : Int) (h : zH) (r : Int × zH), f_SL_drop_21 n a0 a1 a2 a3 h = some r → zK m_SL_drop 21 [(0, (2, ((a0 : Nat) : Int))), (1, (0, a1)), (2, (2, ((a2 : Nat) : Int))), (3, (0, a3))] [] h (some (0, r.1), r.2) := by
  intro n
  induction n with
  | zero =>
    intro a0 a1 a2 a3 h r hf
    cases hf
  | succ n ih =>
    intro a0 a1 a2 a3 h r hf
    unfold f_SL_drop_21 at hf
    refine k_iload_n (pc := 21) rfl z_m3 d_SL_drop_21 ?_
    refine k_aload_n (pc := 22) rfl z_m0 d_SL_drop_22 ?_
    obtain ⟨v1, e_v1, hf⟩ := z_bd hf
    refine k_getI (pc := 23) d_SL_drop_23 fd_SL_119 rfl e_v1 ?_
    rcases z_it hf with ⟨w13, hf⟩ | ⟨w13, hf⟩
    · refine k_ic_ge_t (pc := 26) (tgt := 49) w13 d_SL_drop_26 rfl ?_
      refine k_aload_n (pc := 49) rfl z_m0 d_SL_drop_49 ?_
      refine k_dup (pc := 50) (Or.inr rfl) d_SL_drop_50 ?_
      obtain ⟨v2, e_v2, hf⟩ := z_bd hf
      refine k_getI (pc := 51) d_SL_drop_51 fd_SL_119 rfl e_v2 ?_
      refine k_iconst (pc := 54) (zi_lit rfl) d_SL_drop_54 ?_
      refine k_isub (pc := 55) d_SL_drop_55 ?_
      obtain ⟨h3, e_h3, hf⟩ := z_bd hf
      refine k_putI (pc := 56) d_SL_drop_56 fd_SL_119 (fun q => by cases q) rfl e_h3 ?_
      refine k_aload_n (pc := 59) rfl z_m0 d_SL_drop_59 ?_
      obtain ⟨v4, e_v4, hf⟩ := z_bd hf
      refine k_getR (pc := 60) d_SL_drop_60 fd_SL_22 rfl e_v4 ?_
      refine k_aload_n (pc := 63) rfl z_m0 d_SL_drop_63 ?_
      obtain ⟨v5, e_v5, hf⟩ := z_bd hf
      refine k_getI (pc := 64) d_SL_drop_64 fd_SL_119 rfl e_v5 ?_
      refine k_aload_n (pc := 67) rfl z_m2 d_SL_drop_67 ?_
      obtain ⟨h6, e_h6, hf⟩ := z_bd hf
      refine k_rast25 (pc := 68) rfl (by decide) d_SL_drop_68 e_h6 ?_
      refine k_aload_n (pc := 69) rfl z_m0 d_SL_drop_69 ?_
      refine k_iload_n (pc := 70) rfl z_m1 d_SL_drop_70 ?_
      refine k_iconst (pc := 71) (zi_lit rfl) d_SL_drop_71 ?_
      obtain ⟨n7, e_n7, hf⟩ := z_bd hf
      obtain ⟨q8, e_q8, hf⟩ := z_bd hf
      refine k_callVi (pc := 72) (as := [(0, a1), (0, 0)]) (rest := []) d_SL_drop_72 cw_SL_drop_94 rfl (Nat.le_of_ble_eq_true rfl) (z_ck_of e_n7) (t_SL_tokenizeFrom e_q8) ?_
      cases hf
      exact k_iret (pc := 75) d_SL_drop_75 rfl
    · refine k_ic_ge_f (pc := 26) (tgt := 49) w13 d_SL_drop_26 rfl ?_
      refine k_aload_n (pc := 29) rfl z_m0 d_SL_drop_29 ?_
      obtain ⟨v9, e_v9, hf⟩ := z_bd hf
      refine k_getR (pc := 30) d_SL_drop_30 fd_SL_22 rfl e_v9 ?_
      refine k_iload_n (pc := 33) rfl z_m3 d_SL_drop_33 ?_
      refine k_iconst (pc := 34) (zi_lit rfl) d_SL_drop_34 ?_
      refine k_isub (pc := 35) d_SL_drop_35 ?_
      refine k_aload_n (pc := 36) rfl z_m0 d_SL_drop_36 ?_
      obtain ⟨v10, e_v10, hf⟩ := z_bd hf
      refine k_getR (pc := 37) d_SL_drop_37 fd_SL_22 rfl e_v10 ?_
      refine k_iload_n (pc := 40) rfl z_m3 d_SL_drop_40 ?_
      obtain ⟨v11, e_v11, hf⟩ := z_bd hf
      refine k_rald25 (pc := 41) d_SL_drop_41 e_v11 ?_
      obtain ⟨h12, e_h12, hf⟩ := z_bd hf
      refine k_rast25 (pc := 42) rfl (by decide) d_SL_drop_42 e_h12 ?_
      refine k_iinc (pc := 43) (L' := [(3, (0, zw (a3 + 1))), (0, (2, ((a0 : Nat) : Int))), (1, (0, a1)), (2, (2, ((a2 : Nat) : Int)))]) z_m3 d_SL_drop_43 (Nat.le_of_ble_eq_true rfl) rfl ?_
      refine k_goto (pc := 46) (tgt := 21) d_SL_drop_46 rfl ?_
      refine k_sub [1, 2, 3, 0] rfl ?_
      exact ih a0 a1 a2 (zw (a3 + 1)) h12 _ hf
theorem b_SL_drop_0 (a0 : Nat) (a1 : Int) (h : zH) (r : Int × zH) (hf : f_SL_drop a0 a1 h = some r) : zK m_SL_drop 0 [(0, (2, ((a0 : Nat) : Int))), (1, (0, a1))] [] h (some (0, r.1), r.2) := by
  unfold f_SL_drop at hf
  refine k_aload_n (pc := 0) rfl z_m0 d_SL_drop_0 ?_
  refine k_iload_n (pc := 1) rfl z_m1 d_SL_drop_1 ?_
  obtain ⟨n14, e_n14, hf⟩ := z_bd hf
  obtain ⟨q15, e_q15, hf⟩ := z_bd hf
  refine k_callVi (pc := 2) (as := [(0, a1)]) (rest := []) d_SL_drop_2 cw_SL_drop_126 rfl (Nat.le_of_ble_eq_true rfl) (z_ck_of e_n14) (t_SL_isLine e_q15) ?_
  rcases z_it hf with ⟨w18, hf⟩ | ⟨w18, hf⟩
  · refine k_if_ne_f (pc := 5) (tgt := 10) w18 d_SL_drop_5 rfl ?_
    refine k_iconst (pc := 8) (zi_lit rfl) d_SL_drop_8 ?_
    cases hf
    exact k_iret (pc := 9) d_SL_drop_9 rfl
  · refine k_if_ne_t (pc := 5) (tgt := 10) w18 d_SL_drop_5 rfl ?_
    refine k_aload_n (pc := 10) rfl z_m0 d_SL_drop_10 ?_
    obtain ⟨v16, e_v16, hf⟩ := z_bd hf
    refine k_getR (pc := 11) d_SL_drop_11 fd_SL_22 rfl e_v16 ?_
    refine k_iload_n (pc := 14) rfl z_m1 d_SL_drop_14 ?_
    obtain ⟨v17, e_v17, hf⟩ := z_bd hf
    refine k_rald25 (pc := 15) d_SL_drop_15 e_v17 ?_
    refine k_astore_n (pc := 16) (L' := [(2, (2, ((v17 : Nat) : Int))), (0, (2, ((a0 : Nat) : Int))), (1, (0, a1))]) rfl d_SL_drop_16 (Nat.le_of_ble_eq_true rfl) rfl ?_
    refine k_iload_n (pc := 17) rfl z_m2 d_SL_drop_17 ?_
    refine k_iconst (pc := 18) (zi_lit rfl) d_SL_drop_18 ?_
    refine k_iadd (pc := 19) d_SL_drop_19 ?_
    refine k_istore_n (pc := 20) (L' := [(3, (0, zw (a1 + 1))), (2, (2, ((v17 : Nat) : Int))), (0, (2, ((a0 : Nat) : Int))), (1, (0, a1))]) rfl d_SL_drop_20 (Nat.le_of_ble_eq_true rfl) rfl ?_
    refine k_sub [2, 3, 1, 0] rfl ?_
    exact b_SL_drop_21 100000 a0 a1 v17 (zw (a1 + 1)) q15.2 _ hf
theorem t_SL_drop {a0 : Nat} {a1 : Int} {h : zH} {r : Int × zH} (hf : f_SL_drop a0 a1 h = some r) : zMt m_SL_drop [(2, ((a0 : Nat) : Int)), (0, a1)] h (some (0, r.1), r.2) := zMt.of (by decide) (Nat.le_of_ble_eq_true rfl) (b_SL_drop_0 a0 a1 h r hf)
theorem b_SL_lines_0 (a0 : Nat) (h : zH) (r : Int × zH) (hf : f_SL_lines a0 h = some r) : zK m_SL_lines 0 [(0, (2, ((a0 : Nat) : Int)))] [] h (some (0, r.1), r.2) := by
  unfold f_SL_lines at hf
  refine k_aload_n (pc := 0) rfl z_m0 d_SL_lines_0 ?_
  obtain ⟨v1, e_v1, hf⟩ := z_bd hf
  refine k_getI (pc := 1) d_SL_lines_1 fd_SL_119 rfl e_v1 ?_
  cases hf
  exact k_iret (pc := 4) d_SL_lines_4 rfl
theorem t_SL_lines {a0 : Nat} {h : zH} {r : Int × zH} (hf : f_SL_lines a0 h = some r) : zMt m_SL_lines [(2, ((a0 : Nat) : Int))] h (some (0, r.1), r.2) := zMt.of (by decide) (Nat.le_of_ble_eq_true rfl) (b_SL_lines_0 a0 h r hf)
theorem b_SL_passes_0 (a0 : Nat) (h : zH) (r : Int × zH) (hf : f_SL_passes a0 h = some r) : zK m_SL_passes 0 [(0, (2, ((a0 : Nat) : Int)))] [] h (some (0, r.1), r.2) := by
  unfold f_SL_passes at hf
  refine k_aload_n (pc := 0) rfl z_m0 d_SL_passes_0 ?_
  obtain ⟨v1, e_v1, hf⟩ := z_bd hf
  refine k_getI (pc := 1) d_SL_passes_1 fd_SL_129 rfl e_v1 ?_
  cases hf
  exact k_iret (pc := 4) d_SL_passes_4 rfl
theorem t_SL_passes {a0 : Nat} {h : zH} {r : Int × zH} (hf : f_SL_passes a0 h = some r) : zMt m_SL_passes [(2, ((a0 : Nat) : Int))] h (some (0, r.1), r.2) := zMt.of (by decide) (Nat.le_of_ble_eq_true rfl) (b_SL_passes_0 a0 h r hf)
theorem b_SL_length_0 (a0 : Nat) (a1 : Int) (h : zH) (r : Int × zH) (hf : f_SL_length a0 a1 h = some r) : zK m_SL_length 0 [(0, (2, ((a0 : Nat) : Int))), (1, (0, a1))] [] h (some (0, r.1), r.2) := by
  unfold f_SL_length at hf
  refine k_aload_n (pc := 0) rfl z_m0 d_SL_length_0 ?_
  refine k_iload_n (pc := 1) rfl z_m1 d_SL_length_1 ?_
  obtain ⟨n1, e_n1, hf⟩ := z_bd hf
  obtain ⟨q2, e_q2, hf⟩ := z_bd hf
  refine k_callVi (pc := 2) (as := [(0, a1)]) (rest := []) d_SL_length_2 cw_SL_length_126 rfl (Nat.le_of_ble_eq_true rfl) (z_ck_of e_n1) (t_SL_isLine e_q2) ?_
  rcases z_it hf with ⟨w6, hf⟩ | ⟨w6, hf⟩
  · refine k_if_eq_t (pc := 5) (tgt := 20) w6 d_SL_length_5 rfl ?_
    refine k_iconst (pc := 20) (zi_lit rfl) d_SL_length_20 ?_
    cases hf
    exact k_iret (pc := 21) d_SL_length_21 rfl
  · refine k_if_eq_f (pc := 5) (tgt := 20) w6 d_SL_length_5 rfl ?_
    refine k_aload_n (pc := 8) rfl z_m0 d_SL_length_8 ?_
    obtain ⟨v3, e_v3, hf⟩ := z_bd hf
    refine k_getR (pc := 9) d_SL_length_9 fd_SL_22 rfl e_v3 ?_
    refine k_iload_n (pc := 12) rfl z_m1 d_SL_length_12 ?_
    obtain ⟨v4, e_v4, hf⟩ := z_bd hf
    refine k_rald25 (pc := 13) d_SL_length_13 e_v4 ?_
    obtain ⟨v5, e_v5, hf⟩ := z_bd hf
    refine k_getI (pc := 14) d_SL_length_14 fd_SL_132 rfl e_v5 ?_
    refine k_goto (pc := 17) (tgt := 21) d_SL_length_17 rfl ?_
    cases hf
    exact k_iret (pc := 21) d_SL_length_21 rfl
theorem t_SL_length {a0 : Nat} {a1 : Int} {h : zH} {r : Int × zH} (hf : f_SL_length a0 a1 h = some r) : zMt m_SL_length [(2, ((a0 : Nat) : Int)), (0, a1)] h (some (0, r.1), r.2) := zMt.of (by decide) (Nat.le_of_ble_eq_true rfl) (b_SL_length_0 a0 a1 h r hf)
theorem b_SL_tokens_0 (a0 : Nat) (a1 : Int) (h : zH) (r : Int × zH) (hf : f_SL_tokens a0 a1 h = some r) : zK m_SL_tokens 0 [(0, (2, ((a0 : Nat) : Int))), (1, (0, a1))] [] h (some (0, r.1), r.2) := by
  unfold f_SL_tokens at hf
  refine k_aload_n (pc := 0) rfl z_m0 d_SL_tokens_0 ?_
  refine k_iload_n (pc := 1) rfl z_m1 d_SL_tokens_1 ?_
  obtain ⟨n1, e_n1, hf⟩ := z_bd hf
  obtain ⟨q2, e_q2, hf⟩ := z_bd hf
  refine k_callVi (pc := 2) (as := [(0, a1)]) (rest := []) d_SL_tokens_2 cw_SL_tokens_126 rfl (Nat.le_of_ble_eq_true rfl) (z_ck_of e_n1) (t_SL_isLine e_q2) ?_
  rcases z_it hf with ⟨w6, hf⟩ | ⟨w6, hf⟩
  · refine k_if_eq_t (pc := 5) (tgt := 20) w6 d_SL_tokens_5 rfl ?_
    refine k_iconst (pc := 20) (zi_lit rfl) d_SL_tokens_20 ?_
    cases hf
    exact k_iret (pc := 21) d_SL_tokens_21 rfl
  · refine k_if_eq_f (pc := 5) (tgt := 20) w6 d_SL_tokens_5 rfl ?_
    refine k_aload_n (pc := 8) rfl z_m0 d_SL_tokens_8 ?_
    obtain ⟨v3, e_v3, hf⟩ := z_bd hf
    refine k_getR (pc := 9) d_SL_tokens_9 fd_SL_22 rfl e_v3 ?_
    refine k_iload_n (pc := 12) rfl z_m1 d_SL_tokens_12 ?_
    obtain ⟨v4, e_v4, hf⟩ := z_bd hf
    refine k_rald25 (pc := 13) d_SL_tokens_13 e_v4 ?_
    obtain ⟨v5, e_v5, hf⟩ := z_bd hf
    refine k_getI (pc := 14) d_SL_tokens_14 fd_SL_135 rfl e_v5 ?_
    refine k_goto (pc := 17) (tgt := 21) d_SL_tokens_17 rfl ?_
    cases hf
    exact k_iret (pc := 21) d_SL_tokens_21 rfl
theorem t_SL_tokens {a0 : Nat} {a1 : Int} {h : zH} {r : Int × zH} (hf : f_SL_tokens a0 a1 h = some r) : zMt m_SL_tokens [(2, ((a0 : Nat) : Int)), (0, a1)] h (some (0, r.1), r.2) := zMt.of (by decide) (Nat.le_of_ble_eq_true rfl) (b_SL_tokens_0 a0 a1 h r hf)
theorem b_Li_scopeOf_0 (a0 : Nat) (a1 : Int) (a2 : Int) (h : zH) (r : Int × zH) (hf : f_Li_scopeOf a0 a1 a2 h = some r) : zK m_Li_scopeOf 0 [(0, (2, ((a0 : Nat) : Int))), (1, (0, a1)), (2, (0, a2))] [] h (some (0, r.1), r.2) := by
  unfold f_Li_scopeOf at hf
  refine k_aload_n (pc := 0) rfl z_m0 d_Li_scopeOf_0 ?_
  obtain ⟨v1, e_v1, hf⟩ := z_bd hf
  refine k_getR (pc := 1) d_Li_scopeOf_1 fd_Li_22 rfl e_v1 ?_
  refine k_iload_n (pc := 4) rfl z_m1 d_Li_scopeOf_4 ?_
  refine k_bipush (pc := 5) (zi_lit rfl) (by decide) d_Li_scopeOf_5 ?_
  refine k_imul (pc := 7) d_Li_scopeOf_7 ?_
  refine k_iload_n (pc := 8) rfl z_m2 d_Li_scopeOf_8 ?_
  refine k_iadd (pc := 9) d_Li_scopeOf_9 ?_
  obtain ⟨v2, e_v2, hf⟩ := z_bd hf
  refine k_iald (pc := 10) d_Li_scopeOf_10 e_v2 ?_
  cases hf
  exact k_iret (pc := 11) d_Li_scopeOf_11 rfl
theorem t_Li_scopeOf {a0 : Nat} {a1 : Int} {a2 : Int} {h : zH} {r : Int × zH} (hf : f_Li_scopeOf a0 a1 a2 h = some r) : zMt m_Li_scopeOf [(2, ((a0 : Nat) : Int)), (0, a1), (0, a2)] h (some (0, r.1), r.2) := zMt.of (by decide) (Nat.le_of_ble_eq_true rfl) (b_Li_scopeOf_0 a0 a1 a2 h r hf)
theorem b_Li_lastScope_0 (a0 : Nat) (a1 : Int) (h : zH) (r : Int × zH) (hf : f_Li_lastScope a0 a1 h = some r) : zK m_Li_lastScope 0 [(0, (2, ((a0 : Nat) : Int))), (1, (0, a1))] [] h (some (0, r.1), r.2) := by
  unfold f_Li_lastScope at hf
  refine k_aload_n (pc := 0) rfl z_m0 d_Li_lastScope_0 ?_
  obtain ⟨v1, e_v1, hf⟩ := z_bd hf
  refine k_getR (pc := 1) d_Li_lastScope_1 fd_Li_19 rfl e_v1 ?_
  refine k_iload_n (pc := 4) rfl z_m1 d_Li_lastScope_4 ?_
  obtain ⟨v2, e_v2, hf⟩ := z_bd hf
  refine k_iald (pc := 5) d_Li_lastScope_5 e_v2 ?_
  rcases z_it hf with ⟨w7, hf⟩ | ⟨w7, hf⟩
  · refine k_if_ne_f (pc := 6) (tgt := 13) w7 d_Li_lastScope_6 rfl ?_
    refine k_iconst (pc := 9) (zi_lit rfl) d_Li_lastScope_9 ?_
    refine k_goto (pc := 10) (tgt := 26) d_Li_lastScope_10 rfl ?_
    cases hf
    exact k_iret (pc := 26) d_Li_lastScope_26 rfl
  · refine k_if_ne_t (pc := 6) (tgt := 13) w7 d_Li_lastScope_6 rfl ?_
    refine k_aload_n (pc := 13) rfl z_m0 d_Li_lastScope_13 ?_
    refine k_iload_n (pc := 14) rfl z_m1 d_Li_lastScope_14 ?_
    refine k_aload_n (pc := 15) rfl z_m0 d_Li_lastScope_15 ?_
    obtain ⟨v3, e_v3, hf⟩ := z_bd hf
    refine k_getR (pc := 16) d_Li_lastScope_16 fd_Li_19 rfl e_v3 ?_
    refine k_iload_n (pc := 19) rfl z_m1 d_Li_lastScope_19 ?_
    obtain ⟨v4, e_v4, hf⟩ := z_bd hf
    refine k_iald (pc := 20) d_Li_lastScope_20 e_v4 ?_
    refine k_iconst (pc := 21) (zi_lit rfl) d_Li_lastScope_21 ?_
    refine k_isub (pc := 22) d_Li_lastScope_22 ?_
    obtain ⟨n5, e_n5, hf⟩ := z_bd hf
    obtain ⟨q6, e_q6, hf⟩ := z_bd hf
    refine k_callVi (pc := 23) (as := [(0, a1), (0, zw (v4 - 1))]) (rest := []) d_Li_lastScope_23 cw_Li_lastScope_45 rfl (Nat.le_of_ble_eq_true rfl) (z_ck_of e_n5) (t_Li_scopeOf e_q6) ?_
    cases hf
    exact k_iret (pc := 26) d_Li_lastScope_26 rfl
theorem t_Li_lastScope {a0 : Nat} {a1 : Int} {h : zH} {r : Int × zH} (hf : f_Li_lastScope a0 a1 h = some r) : zMt m_Li_lastScope [(2, ((a0 : Nat) : Int)), (0, a1)] h (some (0, r.1), r.2) := zMt.of (by decide) (Nat.le_of_ble_eq_true rfl) (b_Li_lastScope_0 a0 a1 h r hf)
theorem b_Pa_isUnder_41 (c14 : Nat → Int → Int → Int → Int → Int → zH → Option (Int × zH)) (k14 : ∀ (x0 : Nat) (x1 : Int) (x2 : Int) (x3 : Int) (x4 : Int) (x5 : Int) (g : zH) (r : Int × zH), c14 x0 x1 x2 x3 x4 x5 g = some r → zK m_Pa_isUnder 14 [(0, (2, ((x0 : Nat) : Int))), (1, (0, x1)), (2, (0, x2)), (3, (0, x3)), (4, (0, x4)), (5, (0, x5))] [] g (some (0, r.1), r.2)) (a0 : Nat) (a1 : Int) (a2 : Int) (a3 : Int) (a5 : Int) (s0 : Int) (h : zH) (r : Int × zH) (hf : f_Pa_isUnder_41 c14 a0 a1 a2 a3 a5 s0 h = some r) : zK m_Pa_isUnder 41 [(0, (2, ((a0 : Nat) : Int))), (1, (0, a1)), (2, (0, a2)), (3, (0, a3)), (5, (0, a5))] [(0, s0)] h (some (0, r.1), r.2) := by
  unfold f_Pa_isUnder_41 at hf
  refine k_istore (pc := 41) (L' := [(4, (0, s0)), (0, (2, ((a0 : Nat) : Int))), (1, (0, a1)), (2, (0, a2)), (3, (0, a3)), (5, (0, a5))]) d_Pa_isUnder_41 (Nat.le_of_ble_eq_true rfl) rfl ?_
  refine k_iinc (pc := 43) (L' := [(5, (0, zw (a5 + 1))), (4, (0, s0)), (0, (2, ((a0 : Nat) : Int))), (1, (0, a1)), (2, (0, a2)), (3, (0, a3))]) z_m5 d_Pa_isUnder_43 (Nat.le_of_ble_eq_true rfl) rfl ?_
  refine k_goto (pc := 46) (tgt := 14) d_Pa_isUnder_46 rfl ?_
  refine k_sub [2, 3, 4, 5, 1, 0] rfl ?_
  exact k14 a0 a1 a2 a3 s0 (zw (a5 + 1)) h _ hf
theorem b_Pa_isUnder_14 : ∀ (n : Nat) (a0 : Nat) (a1 : Int) (a2 : Int) (a3 : Int) (a4 : Int) (a5 : Int) (h : zH) (r : Int × zH), f_Pa_isUnder_14 n a0 a1 a2 a3 a4 a5 h = some r → zK m_Pa_isUnder 14 [(0, (2, ((a0 : Nat) : Int))), (1, (0, a1)), (2, (0, a2)), (3, (0, a3)), (4, (0, a4)), (5, (0, a5))] [] h (some (0, r.1), r.2) := by
  intro n
  induction n with
  | zero =>
    intro a0 a1 a2 a3 a4 a5 h r hf
    cases hf
  | succ n ih =>
    intro a0 a1 a2 a3 a4 a5 h r hf
    unfold f_Pa_isUnder_14 at hf
    refine k_iload (pc := 14) z_m5 d_Pa_isUnder_14 ?_
    refine k_iload_n (pc := 16) rfl z_m2 d_Pa_isUnder_16 ?_
    rcases z_it hf with ⟨w5, hf⟩ | ⟨w5, hf⟩
    · refine k_ic_ge_t (pc := 17) (tgt := 49) w5 d_Pa_isUnder_17 rfl ?_
      refine k_iload (pc := 49) z_m4 d_Pa_isUnder_49 ?_
      obtain ⟨b, eb, hf⟩ := z_bd hf
      have hb := z_bo_of eb
      rw [hb.1] at hf
      cases hf
      exact k_zret (pc := 51) d_Pa_isUnder_51 rfl hb.2
    · refine k_ic_ge_f (pc := 17) (tgt := 49) w5 d_Pa_isUnder_17 rfl ?_
      refine k_iload (pc := 20) z_m4 d_Pa_isUnder_20 ?_
      rcases z_it hf with ⟨w4, hf⟩ | ⟨w4, hf⟩
      · refine k_if_ne_f (pc := 22) (tgt := 49) w4 d_Pa_isUnder_22 rfl ?_
        refine k_aload_n (pc := 25) rfl z_m0 d_Pa_isUnder_25 ?_
        refine k_iload_n (pc := 26) rfl z_m1 d_Pa_isUnder_26 ?_
        refine k_iload (pc := 27) z_m5 d_Pa_isUnder_27 ?_
        obtain ⟨n1, e_n1, hf⟩ := z_bd hf
        obtain ⟨q2, e_q2, hf⟩ := z_bd hf
        refine k_callVi (pc := 29) (as := [(0, a1), (0, a5)]) (rest := []) d_Pa_isUnder_29 cw_Pa_isUnder_34 rfl (Nat.le_of_ble_eq_true rfl) (z_ck_of e_n1) (t_Li_scopeOf e_q2) ?_
        refine k_iload_n (pc := 32) rfl z_m3 d_Pa_isUnder_32 ?_
        rcases z_it hf with ⟨w3, hf⟩ | ⟨w3, hf⟩
        · refine k_ic_ne_f (pc := 33) (tgt := 40) w3 d_Pa_isUnder_33 rfl ?_
          refine k_iconst (pc := 36) (zi_lit rfl) d_Pa_isUnder_36 ?_
          refine k_goto (pc := 37) (tgt := 41) d_Pa_isUnder_37 rfl ?_
          refine k_sub [0, 1, 2, 3, 5] rfl ?_
          exact b_Pa_isUnder_41 (f_Pa_isUnder_14 n) ih a0 a1 a2 a3 a5 1 q2.2 _ hf
        · refine k_ic_ne_t (pc := 33) (tgt := 40) w3 d_Pa_isUnder_33 rfl ?_
          refine k_iconst (pc := 40) (zi_lit rfl) d_Pa_isUnder_40 ?_
          refine k_sub [0, 1, 2, 3, 5] rfl ?_
          exact b_Pa_isUnder_41 (f_Pa_isUnder_14 n) ih a0 a1 a2 a3 a5 0 q2.2 _ hf
      · refine k_if_ne_t (pc := 22) (tgt := 49) w4 d_Pa_isUnder_22 rfl ?_
        refine k_iload (pc := 49) z_m4 d_Pa_isUnder_49 ?_
        obtain ⟨b, eb, hf⟩ := z_bd hf
        have hb := z_bo_of eb
        rw [hb.1] at hf
        cases hf
        exact k_zret (pc := 51) d_Pa_isUnder_51 rfl hb.2
theorem b_Pa_isUnder_9 (a0 : Nat) (a1 : Int) (a2 : Int) (a3 : Int) (s0 : Int) (h : zH) (r : Int × zH) (hf : f_Pa_isUnder_9 a0 a1 a2 a3 s0 h = some r) : zK m_Pa_isUnder 9 [(0, (2, ((a0 : Nat) : Int))), (1, (0, a1)), (2, (0, a2)), (3, (0, a3))] [(0, s0)] h (some (0, r.1), r.2) := by
  unfold f_Pa_isUnder_9 at hf
  refine k_istore (pc := 9) (L' := [(4, (0, s0)), (0, (2, ((a0 : Nat) : Int))), (1, (0, a1)), (2, (0, a2)), (3, (0, a3))]) d_Pa_isUnder_9 (Nat.le_of_ble_eq_true rfl) rfl ?_
  refine k_iconst (pc := 11) (zi_lit rfl) d_Pa_isUnder_11 ?_
  refine k_istore (pc := 12) (L' := [(5, (0, 0)), (4, (0, s0)), (0, (2, ((a0 : Nat) : Int))), (1, (0, a1)), (2, (0, a2)), (3, (0, a3))]) d_Pa_isUnder_12 (Nat.le_of_ble_eq_true rfl) rfl ?_
  refine k_sub [2, 3, 4, 5, 1, 0] rfl ?_
  exact b_Pa_isUnder_14 100000 a0 a1 a2 a3 s0 0 h _ hf
theorem b_Pa_isUnder_0 (a0 : Nat) (a1 : Int) (a2 : Int) (a3 : Int) (h : zH) (r : Int × zH) (hf : f_Pa_isUnder a0 a1 a2 a3 h = some r) : zK m_Pa_isUnder 0 [(0, (2, ((a0 : Nat) : Int))), (1, (0, a1)), (2, (0, a2)), (3, (0, a3))] [] h (some (0, r.1), r.2) := by
  unfold f_Pa_isUnder at hf
  refine k_iload_n (pc := 0) rfl z_m3 d_Pa_isUnder_0 ?_
  rcases z_it hf with ⟨w6, hf⟩ | ⟨w6, hf⟩
  · refine k_if_ne_f (pc := 1) (tgt := 8) w6 d_Pa_isUnder_1 rfl ?_
    refine k_iconst (pc := 4) (zi_lit rfl) d_Pa_isUnder_4 ?_
    refine k_goto (pc := 5) (tgt := 9) d_Pa_isUnder_5 rfl ?_
    exact b_Pa_isUnder_9 a0 a1 a2 a3 1 h _ hf
  · refine k_if_ne_t (pc := 1) (tgt := 8) w6 d_Pa_isUnder_1 rfl ?_
    refine k_iconst (pc := 8) (zi_lit rfl) d_Pa_isUnder_8 ?_
    exact b_Pa_isUnder_9 a0 a1 a2 a3 0 h _ hf
theorem t_Pa_isUnder {a0 : Nat} {a1 : Int} {a2 : Int} {a3 : Int} {h : zH} {r : Int × zH} (hf : f_Pa_isUnder a0 a1 a2 a3 h = some r) : zMt m_Pa_isUnder [(2, ((a0 : Nat) : Int)), (0, a1), (0, a2), (0, a3)] h (some (0, r.1), r.2) := zMt.of (by decide) (Nat.le_of_ble_eq_true rfl) (b_Pa_isUnder_0 a0 a1 a2 a3 h r hf)
theorem b_Pa_entryFor_94 (c6 : Nat → Nat → Int → Int → Int → Int → zH → Option (Int × zH)) (k6 : ∀ (x0 : Nat) (x1 : Nat) (x2 : Int) (x3 : Int) (x4 : Int) (x5 : Int) (g : zH) (r : Int × zH), c6 x0 x1 x2 x3 x4 x5 g = some r → zK m_Pa_entryFor 6 [(0, (2, ((x0 : Nat) : Int))), (1, (2, ((x1 : Nat) : Int))), (2, (0, x2)), (3, (0, x3)), (4, (0, x4)), (5, (0, x5))] [] g (some (0, r.1), r.2)) (a0 : Nat) (a1 : Nat) (a2 : Int) (a3 : Int) (a4 : Int) (a5 : Int) (h : zH) (r : Int × zH) (hf : f_Pa_entryFor_94 c6 a0 a1 a2 a3 a4 a5 h = some r) : zK m_Pa_entryFor 94 [(0, (2, ((a0 : Nat) : Int))), (1, (2, ((a1 : Nat) : Int))), (2, (0, a2)), (3, (0, a3)), (4, (0, a4)), (5, (0, a5))] [] h (some (0, r.1), r.2) := by
  unfold f_Pa_entryFor_94 at hf
  refine k_iinc (pc := 94) (L' := [(5, (0, zw (a5 + 1))), (0, (2, ((a0 : Nat) : Int))), (1, (2, ((a1 : Nat) : Int))), (2, (0, a2)), (3, (0, a3)), (4, (0, a4))]) z_m5 d_Pa_entryFor_94 (Nat.le_of_ble_eq_true rfl) rfl ?_
  refine k_goto (pc := 97) (tgt := 6) d_Pa_entryFor_97 rfl ?_
  refine k_sub [1, 2, 3, 4, 5, 0] rfl ?_
  exact k6 a0 a1 a2 a3 a4 (zw (a5 + 1)) h _ hf
theorem b_Pa_entryFor_92 (c6 : Nat → Nat → Int → Int → Int → Int → zH → Option (Int × zH)) (k6 : ∀ (x0 : Nat) (x1 : Nat) (x2 : Int) (x3 : Int) (x4 : Int) (x5 : Int) (g : zH) (r : Int × zH), c6 x0 x1 x2 x3 x4 x5 g = some r → zK m_Pa_entryFor 6 [(0, (2, ((x0 : Nat) : Int))), (1, (2, ((x1 : Nat) : Int))), (2, (0, x2)), (3, (0, x3)), (4, (0, x4)), (5, (0, x5))] [] g (some (0, r.1), r.2)) (a0 : Nat) (a1 : Nat) (a2 : Int) (a3 : Int) (a5 : Int) (s0 : Int) (h : zH) (r : Int × zH) (hf : f_Pa_entryFor_92 c6 a0 a1 a2 a3 a5 s0 h = some r) : zK m_Pa_entryFor 92 [(0, (2, ((a0 : Nat) : Int))), (1, (2, ((a1 : Nat) : Int))), (2, (0, a2)), (3, (0, a3)), (5, (0, a5))] [(0, s0)] h (some (0, r.1), r.2) := by
  unfold f_Pa_entryFor_92 at hf
  refine k_istore (pc := 92) (L' := [(4, (0, s0)), (0, (2, ((a0 : Nat) : Int))), (1, (2, ((a1 : Nat) : Int))), (2, (0, a2)), (3, (0, a3)), (5, (0, a5))]) d_Pa_entryFor_92 (Nat.le_of_ble_eq_true rfl) rfl ?_
  refine k_sub [1, 2, 3, 4, 0, 5] rfl ?_
  exact b_Pa_entryFor_94 c6 k6 a0 a1 a2 a3 s0 a5 h _ hf
theorem b_Pa_entryFor_78 (c6 : Nat → Nat → Int → Int → Int → Int → zH → Option (Int × zH)) (k6 : ∀ (x0 : Nat) (x1 : Nat) (x2 : Int) (x3 : Int) (x4 : Int) (x5 : Int) (g : zH) (r : Int × zH), c6 x0 x1 x2 x3 x4 x5 g = some r → zK m_Pa_entryFor 6 [(0, (2, ((x0 : Nat) : Int))), (1, (2, ((x1 : Nat) : Int))), (2, (0, x2)), (3, (0, x3)), (4, (0, x4)), (5, (0, x5))] [] g (some (0, r.1), r.2)) (a0 : Nat) (a1 : Nat) (a2 : Int) (a3 : Int) (a4 : Int) (a5 : Int) (s0 : Int) (h : zH) (r : Int × zH) (hf : f_Pa_entryFor_78 c6 a0 a1 a2 a3 a4 a5 s0 h = some r) : zK m_Pa_entryFor 78 [(0, (2, ((a0 : Nat) : Int))), (1, (2, ((a1 : Nat) : Int))), (2, (0, a2)), (3, (0, a3)), (4, (0, a4)), (5, (0, a5))] [(0, s0)] h (some (0, r.1), r.2) := by
  unfold f_Pa_entryFor_78 at hf
  refine k_istore (pc := 78) (L' := [(6, (0, s0)), (0, (2, ((a0 : Nat) : Int))), (1, (2, ((a1 : Nat) : Int))), (2, (0, a2)), (3, (0, a3)), (4, (0, a4)), (5, (0, a5))]) d_Pa_entryFor_78 (Nat.le_of_ble_eq_true rfl) rfl ?_
  refine k_iload (pc := 80) z_m0 d_Pa_entryFor_80 ?_
  rcases z_it hf with ⟨w1, hf⟩ | ⟨w1, hf⟩
  · refine k_if_eq_t (pc := 82) (tgt := 90) w1 d_Pa_entryFor_82 rfl ?_
    refine k_iload (pc := 90) z_m6 d_Pa_entryFor_90 ?_
    refine k_sub [1, 2, 3, 4, 6] rfl ?_
    exact b_Pa_entryFor_92 c6 k6 a0 a1 a2 a3 a5 a5 h _ hf
  · refine k_if_eq_f (pc := 82) (tgt := 90) w1 d_Pa_entryFor_82 rfl ?_
    refine k_iload (pc := 85) z_m5 d_Pa_entryFor_85 ?_
    refine k_goto (pc := 87) (tgt := 92) d_Pa_entryFor_87 rfl ?_
    refine k_sub [1, 2, 3, 4, 6] rfl ?_
    exact b_Pa_entryFor_92 c6 k6 a0 a1 a2 a3 a5 a4 h _ hf
theorem b_Pa_entryFor_77 (c6 : Nat → Nat → Int → Int → Int → Int → zH → Option (Int × zH)) (k6 : ∀ (x0 : Nat) (x1 : Nat) (x2 : Int) (x3 : Int) (x4 : Int) (x5 : Int) (g : zH) (r : Int × zH), c6 x0 x1 x2 x3 x4 x5 g = some r → zK m_Pa_entryFor 6 [(0, (2, ((x0 : Nat) : Int))), (1, (2, ((x1 : Nat) : Int))), (2, (0, x2)), (3, (0, x3)), (4, (0, x4)), (5, (0, x5))] [] g (some (0, r.1), r.2)) (a0 : Nat) (a1 : Nat) (a2 : Int) (a3 : Int) (a4 : Int) (a5 : Int) (h : zH) (r : Int × zH) (hf : f_Pa_entryFor_77 c6 a0 a1 a2 a3 a4 a5 h = some r) : zK m_Pa_entryFor 77 [(0, (2, ((a0 : Nat) : Int))), (1, (2, ((a1 : Nat) : Int))), (2, (0, a2)), (3, (0, a3)), (4, (0, a4)), (5, (0, a5))] [] h (some (0, r.1), r.2) := by
  unfold f_Pa_entryFor_77 at hf
  refine k_iconst (pc := 77) (zi_lit rfl) d_Pa_entryFor_77 ?_
  exact b_Pa_entryFor_78 c6 k6 a0 a1 a2 a3 a4 a5 0 h _ hf
theorem b_Pa_entryFor_6 : ∀ (n : Nat) (a0 : Nat) (a1 : Nat) (a2 : Int) (a3 : Int) (a4 : Int) (a5 : Int) (h : zH) (r : Int × zH), f_Pa_entryFor_6 n a0 a1 a2 a3 a4 a5 h = some r → zK m_Pa_entryFor 6 [(0, (2, ((a0 : Nat) : Int))), (1, (2, ((a1 : Nat) : Int))), (2, (0, a2)), (3, (0, a3)), (4, (0, a4)), (5, (0, a5))] [] h (some (0, r.1), r.2) := by
  intro n
  induction n with
  | zero =>
    intro a0 a1 a2 a3 a4 a5 h r hf
    cases hf
  | succ n ih =>
    intro a0 a1 a2 a3 a4 a5 h r hf
    unfold f_Pa_entryFor_6 at hf
    refine k_iload (pc := 6) z_m5 d_Pa_entryFor_6 ?_
    refine k_aload_n (pc := 8) rfl z_m0 d_Pa_entryFor_8 ?_
    obtain ⟨v2, e_v2, hf⟩ := z_bd hf
    refine k_getI (pc := 9) d_Pa_entryFor_9 fd_Pa_21 rfl e_v2 ?_
    rcases z_it hf with ⟨w19, hf⟩ | ⟨w19, hf⟩
    · refine k_ic_ge_t (pc := 12) (tgt := 100) w19 d_Pa_entryFor_12 rfl ?_
      refine k_iload (pc := 100) z_m4 d_Pa_entryFor_100 ?_
      cases hf
      exact k_iret (pc := 102) d_Pa_entryFor_102 rfl
    · refine k_ic_ge_f (pc := 12) (tgt := 100) w19 d_Pa_entryFor_12 rfl ?_
      refine k_aload_n (pc := 15) rfl z_m0 d_Pa_entryFor_15 ?_
      obtain ⟨v3, e_v3, hf⟩ := z_bd hf
      refine k_getR (pc := 16) d_Pa_entryFor_16 fd_Pa_9 rfl e_v3 ?_
      refine k_iload (pc := 19) z_m5 d_Pa_entryFor_19 ?_
      obtain ⟨v4, e_v4, hf⟩ := z_bd hf
      refine k_iald (pc := 21) d_Pa_entryFor_21 e_v4 ?_
      refine k_aload_n (pc := 22) rfl z_m1 d_Pa_entryFor_22 ?_
      refine k_iload_n (pc := 23) rfl z_m2 d_Pa_entryFor_23 ?_
      refine k_iload_n (pc := 24) rfl z_m3 d_Pa_entryFor_24 ?_
      obtain ⟨n5, e_n5, hf⟩ := z_bd hf
      obtain ⟨q6, e_q6, hf⟩ := z_bd hf
      refine k_callVi (pc := 25) (as := [(0, a2), (0, a3)]) (rest := [(0, v4)]) d_Pa_entryFor_25 cw_Pa_entryFor_34 rfl (Nat.le_of_ble_eq_true rfl) (z_ck_of e_n5) (t_Li_scopeOf e_q6) ?_
      rcases z_it hf with ⟨w18, hf⟩ | ⟨w18, hf⟩
      · refine k_ic_ne_f (pc := 28) (tgt := 94) w18 d_Pa_entryFor_28 rfl ?_
        refine k_aload_n (pc := 31) rfl z_m1 d_Pa_entryFor_31 ?_
        refine k_iload_n (pc := 32) rfl z_m2 d_Pa_entryFor_32 ?_
        refine k_iload_n (pc := 33) rfl z_m3 d_Pa_entryFor_33 ?_
        refine k_aload_n (pc := 34) rfl z_m0 d_Pa_entryFor_34 ?_
        obtain ⟨v7, e_v7, hf⟩ := z_bd hf
        refine k_getR (pc := 35) d_Pa_entryFor_35 fd_Pa_15 rfl e_v7 ?_
        refine k_iload (pc := 38) z_m5 d_Pa_entryFor_38 ?_
        obtain ⟨v8, e_v8, hf⟩ := z_bd hf
        refine k_iald (pc := 40) d_Pa_entryFor_40 e_v8 ?_
        obtain ⟨q9, e_q9, hf⟩ := z_bd hf
        refine k_callSi (pc := 41) (as := [(2, ((a1 : Nat) : Int)), (0, a2), (0, a3), (0, v8)]) (rest := []) d_Pa_entryFor_41 cw_Pa_entryFor_38 rfl (Nat.le_of_ble_eq_true rfl) (t_Pa_isUnder e_q9) ?_
        rcases z_it hf with ⟨w17, hf⟩ | ⟨w17, hf⟩
        · refine k_if_eq_t (pc := 44) (tgt := 94) w17 d_Pa_entryFor_44 rfl ?_
          exact b_Pa_entryFor_94 (f_Pa_entryFor_6 n) ih a0 a1 a2 a3 a4 a5 q9.2 _ hf
        · refine k_if_eq_f (pc := 44) (tgt := 94) w17 d_Pa_entryFor_44 rfl ?_
          refine k_iload (pc := 47) z_m4 d_Pa_entryFor_47 ?_
          refine k_iconst (pc := 49) (zi_lit rfl) d_Pa_entryFor_49 ?_
          rcases z_it hf with ⟨w16, hf⟩ | ⟨w16, hf⟩
          · refine k_ic_eq_t (pc := 50) (tgt := 77) w16 d_Pa_entryFor_50 rfl ?_
            exact b_Pa_entryFor_77 (f_Pa_entryFor_6 n) ih a0 a1 a2 a3 a4 a5 q9.2 _ hf
          · refine k_ic_eq_f (pc := 50) (tgt := 77) w16 d_Pa_entryFor_50 rfl ?_
            refine k_aload_n (pc := 53) rfl z_m0 d_Pa_entryFor_53 ?_
            obtain ⟨v10, e_v10, hf⟩ := z_bd hf
            refine k_getR (pc := 54) d_Pa_entryFor_54 fd_Pa_15 rfl e_v10 ?_
            refine k_iload (pc := 57) z_m4 d_Pa_entryFor_57 ?_
            obtain ⟨v11, e_v11, hf⟩ := z_bd hf
            refine k_iald (pc := 59) d_Pa_entryFor_59 e_v11 ?_
            rcases z_it hf with ⟨w15, hf⟩ | ⟨w15, hf⟩
            · refine k_if_eq_t (pc := 60) (tgt := 77) w15 d_Pa_entryFor_60 rfl ?_
              exact b_Pa_entryFor_77 (f_Pa_entryFor_6 n) ih a0 a1 a2 a3 a4 a5 q9.2 _ hf
            · refine k_if_eq_f (pc := 60) (tgt := 77) w15 d_Pa_entryFor_60 rfl ?_
              refine k_aload_n (pc := 63) rfl z_m0 d_Pa_entryFor_63 ?_
              obtain ⟨v12, e_v12, hf⟩ := z_bd hf
              refine k_getR (pc := 64) d_Pa_entryFor_64 fd_Pa_15 rfl e_v12 ?_
              refine k_iload (pc := 67) z_m5 d_Pa_entryFor_67 ?_
              obtain ⟨v13, e_v13, hf⟩ := z_bd hf
              refine k_iald (pc := 69) d_Pa_entryFor_69 e_v13 ?_
              rcases z_it hf with ⟨w14, hf⟩ | ⟨w14, hf⟩
              · refine k_if_ne_f (pc := 70) (tgt := 77) w14 d_Pa_entryFor_70 rfl ?_
                refine k_iconst (pc := 73) (zi_lit rfl) d_Pa_entryFor_73 ?_
                refine k_goto (pc := 74) (tgt := 78) d_Pa_entryFor_74 rfl ?_
                exact b_Pa_entryFor_78 (f_Pa_entryFor_6 n) ih a0 a1 a2 a3 a4 a5 1 q9.2 _ hf
              · refine k_if_ne_t (pc := 70) (tgt := 77) w14 d_Pa_entryFor_70 rfl ?_
                exact b_Pa_entryFor_77 (f_Pa_entryFor_6 n) ih a0 a1 a2 a3 a4 a5 q9.2 _ hf
      · refine k_ic_ne_t (pc := 28) (tgt := 94) w18 d_Pa_entryFor_28 rfl ?_
        exact b_Pa_entryFor_94 (f_Pa_entryFor_6 n) ih a0 a1 a2 a3 a4 a5 q6.2 _ hf
theorem b_Pa_entryFor_0 (a0 : Nat) (a1 : Nat) (a2 : Int) (a3 : Int) (h : zH) (r : Int × zH) (hf : f_Pa_entryFor a0 a1 a2 a3 h = some r) : zK m_Pa_entryFor 0 [(0, (2, ((a0 : Nat) : Int))), (1, (2, ((a1 : Nat) : Int))), (2, (0, a2)), (3, (0, a3))] [] h (some (0, r.1), r.2) := by
  unfold f_Pa_entryFor at hf
  refine k_iconst (pc := 0) (zi_lit rfl) d_Pa_entryFor_0 ?_
  refine k_istore (pc := 1) (L' := [(4, (0, (-1))), (0, (2, ((a0 : Nat) : Int))), (1, (2, ((a1 : Nat) : Int))), (2, (0, a2)), (3, (0, a3))]) d_Pa_entryFor_1 (Nat.le_of_ble_eq_true rfl) rfl ?_
  refine k_iconst (pc := 3) (zi_lit rfl) d_Pa_entryFor_3 ?_
  refine k_istore (pc := 4) (L' := [(5, (0, 0)), (4, (0, (-1))), (0, (2, ((a0 : Nat) : Int))), (1, (2, ((a1 : Nat) : Int))), (2, (0, a2)), (3, (0, a3))]) d_Pa_entryFor_4 (Nat.le_of_ble_eq_true rfl) rfl ?_
  refine k_sub [2, 3, 4, 5, 1, 0] rfl ?_
  exact b_Pa_entryFor_6 100000 a0 a1 a2 a3 (-1) 0 h _ hf
theorem t_Pa_entryFor {a0 : Nat} {a1 : Nat} {a2 : Int} {a3 : Int} {h : zH} {r : Int × zH} (hf : f_Pa_entryFor a0 a1 a2 a3 h = some r) : zMt m_Pa_entryFor [(2, ((a0 : Nat) : Int)), (2, ((a1 : Nat) : Int)), (0, a2), (0, a3)] h (some (0, r.1), r.2) := zMt.of (by decide) (Nat.le_of_ble_eq_true rfl) (b_Pa_entryFor_0 a0 a1 a2 a3 h r hf)
theorem b_Pa_colourOf_9 : ∀ (n : Nat) (a0 : Nat) (a1 : Nat) (a2 : Int) (a3 : Int) (h : zH) (r : Int × zH), f_Pa_colourOf_9 n a0 a1 a2 a3 h = some r → zK m_Pa_colourOf 9 [(0, (2, ((a0 : Nat) : Int))), (1, (2, ((a1 : Nat) : Int))), (2, (0, a2)), (3, (0, a3))] [] h (some (0, r.1), r.2) := by
  intro n
  induction n with
  | zero =>
    intro a0 a1 a2 a3 h r hf
    cases hf
  | succ n ih =>
    intro a0 a1 a2 a3 h r hf
    unfold f_Pa_colourOf_9 at hf
    refine k_iload_n (pc := 9) rfl z_m3 d_Pa_colourOf_9 ?_
    rcases z_it hf with ⟨w6, hf⟩ | ⟨w6, hf⟩
    · refine k_if_lt_t (pc := 10) (tgt := 42) w6 d_Pa_colourOf_10 rfl ?_
      refine k_iconst (pc := 42) (zi_lit rfl) d_Pa_colourOf_42 ?_
      cases hf
      exact k_iret (pc := 43) d_Pa_colourOf_43 rfl
    · refine k_if_lt_f (pc := 10) (tgt := 42) w6 d_Pa_colourOf_10 rfl ?_
      refine k_aload_n (pc := 13) rfl z_m0 d_Pa_colourOf_13 ?_
      refine k_aload_n (pc := 14) rfl z_m1 d_Pa_colourOf_14 ?_
      refine k_iload_n (pc := 15) rfl z_m2 d_Pa_colourOf_15 ?_
      refine k_iload_n (pc := 16) rfl z_m3 d_Pa_colourOf_16 ?_
      obtain ⟨n1, e_n1, hf⟩ := z_bd hf
      obtain ⟨q2, e_q2, hf⟩ := z_bd hf
      refine k_callVi (pc := 17) (as := [(2, ((a1 : Nat) : Int)), (0, a2), (0, a3)]) (rest := []) d_Pa_colourOf_17 cw_Pa_colourOf_30 rfl (Nat.le_of_ble_eq_true rfl) (z_ck_of e_n1) (t_Pa_entryFor e_q2) ?_
      refine k_istore (pc := 20) (L' := [(4, (0, q2.1)), (0, (2, ((a0 : Nat) : Int))), (1, (2, ((a1 : Nat) : Int))), (2, (0, a2)), (3, (0, a3))]) d_Pa_colourOf_20 (Nat.le_of_ble_eq_true rfl) rfl ?_
      refine k_iload (pc := 22) z_m0 d_Pa_colourOf_22 ?_
      refine k_iconst (pc := 24) (zi_lit rfl) d_Pa_colourOf_24 ?_
      rcases z_it hf with ⟨w5, hf⟩ | ⟨w5, hf⟩
      · refine k_ic_eq_t (pc := 25) (tgt := 36) w5 d_Pa_colourOf_25 rfl ?_
        refine k_iinc (pc := 36) (L' := [(3, (0, zw (a3 + (-1)))), (4, (0, q2.1)), (0, (2, ((a0 : Nat) : Int))), (1, (2, ((a1 : Nat) : Int))), (2, (0, a2))]) z_m4 d_Pa_colourOf_36 (Nat.le_of_ble_eq_true rfl) rfl ?_
        refine k_goto (pc := 39) (tgt := 9) d_Pa_colourOf_39 rfl ?_
        refine k_sub [2, 3, 4, 0] rfl ?_
        exact ih a0 a1 a2 (zw (a3 + (-1))) q2.2 _ hf
      · refine k_ic_eq_f (pc := 25) (tgt := 36) w5 d_Pa_colourOf_25 rfl ?_
        refine k_aload_n (pc := 28) rfl z_m1 d_Pa_colourOf_28 ?_
        obtain ⟨v3, e_v3, hf⟩ := z_bd hf
        refine k_getR (pc := 29) d_Pa_colourOf_29 fd_Pa_18 rfl e_v3 ?_
        refine k_iload (pc := 32) z_m0 d_Pa_colourOf_32 ?_
        obtain ⟨v4, e_v4, hf⟩ := z_bd hf
        refine k_iald (pc := 34) d_Pa_colourOf_34 e_v4 ?_
        cases hf
        exact k_iret (pc := 35) d_Pa_colourOf_35 rfl
theorem b_Pa_colourOf_0 (a0 : Nat) (a1 : Nat) (a2 : Int) (h : zH) (r : Int × zH) (hf : f_Pa_colourOf a0 a1 a2 h = some r) : zK m_Pa_colourOf 0 [(0, (2, ((a0 : Nat) : Int))), (1, (2, ((a1 : Nat) : Int))), (2, (0, a2))] [] h (some (0, r.1), r.2) := by
  unfold f_Pa_colourOf at hf
  refine k_aload_n (pc := 0) rfl z_m1 d_Pa_colourOf_0 ?_
  obtain ⟨v7, e_v7, hf⟩ := z_bd hf
  refine k_getR (pc := 1) d_Pa_colourOf_1 fd_Pa_25 rfl e_v7 ?_
  refine k_iload_n (pc := 4) rfl z_m2 d_Pa_colourOf_4 ?_
  obtain ⟨v8, e_v8, hf⟩ := z_bd hf
  refine k_iald (pc := 5) d_Pa_colourOf_5 e_v8 ?_
  refine k_iconst (pc := 6) (zi_lit rfl) d_Pa_colourOf_6 ?_
  refine k_isub (pc := 7) d_Pa_colourOf_7 ?_
  refine k_istore_n (pc := 8) (L' := [(3, (0, zw (v8 - 1))), (0, (2, ((a0 : Nat) : Int))), (1, (2, ((a1 : Nat) : Int))), (2, (0, a2))]) rfl d_Pa_colourOf_8 (Nat.le_of_ble_eq_true rfl) rfl ?_
  refine k_sub [1, 2, 3, 0] rfl ?_
  exact b_Pa_colourOf_9 100000 a0 a1 a2 (zw (v8 - 1)) h _ hf
theorem t_Pa_colourOf {a0 : Nat} {a1 : Nat} {a2 : Int} {h : zH} {r : Int × zH} (hf : f_Pa_colourOf a0 a1 a2 h = some r) : zMt m_Pa_colourOf [(2, ((a0 : Nat) : Int)), (2, ((a1 : Nat) : Int)), (0, a2)] h (some (0, r.1), r.2) := zMt.of (by decide) (Nat.le_of_ble_eq_true rfl) (b_Pa_colourOf_0 a0 a1 a2 h r hf)
theorem b_SL_token_0 (a0 : Nat) (a1 : Int) (a2 : Int) (a3 : Int) (h : zH) (r : Int × zH) (hf : f_SL_token a0 a1 a2 a3 h = some r) : zK m_SL_token 0 [(0, (2, ((a0 : Nat) : Int))), (1, (0, a1)), (2, (0, a2)), (3, (0, a3))] [] h (some (0, r.1), r.2) := by
  unfold f_SL_token at hf
  refine k_aload_n (pc := 0) rfl z_m0 d_SL_token_0 ?_
  refine k_iload_n (pc := 1) rfl z_m1 d_SL_token_1 ?_
  obtain ⟨n1, e_n1, hf⟩ := z_bd hf
  obtain ⟨q2, e_q2, hf⟩ := z_bd hf
  refine k_callVi (pc := 2) (as := [(0, a1)]) (rest := []) d_SL_token_2 cw_SL_token_126 rfl (Nat.le_of_ble_eq_true rfl) (z_ck_of e_n1) (t_SL_isLine e_q2) ?_
  rcases z_it hf with ⟨w23, hf⟩ | ⟨w23, hf⟩
  · refine k_if_eq_t (pc := 5) (tgt := 25) w23 d_SL_token_5 rfl ?_
    refine k_iconst (pc := 25) (zi_lit rfl) d_SL_token_25 ?_
    cases hf
    exact k_iret (pc := 26) d_SL_token_26 rfl
  · refine k_if_eq_f (pc := 5) (tgt := 25) w23 d_SL_token_5 rfl ?_
    refine k_iload_n (pc := 8) rfl z_m2 d_SL_token_8 ?_
    rcases z_it hf with ⟨w22, hf⟩ | ⟨w22, hf⟩
    · refine k_if_lt_t (pc := 9) (tgt := 25) w22 d_SL_token_9 rfl ?_
      refine k_iconst (pc := 25) (zi_lit rfl) d_SL_token_25 ?_
      cases hf
      exact k_iret (pc := 26) d_SL_token_26 rfl
    · refine k_if_lt_f (pc := 9) (tgt := 25) w22 d_SL_token_9 rfl ?_
      refine k_iload_n (pc := 12) rfl z_m2 d_SL_token_12 ?_
      refine k_aload_n (pc := 13) rfl z_m0 d_SL_token_13 ?_
      obtain ⟨v3, e_v3, hf⟩ := z_bd hf
      refine k_getR (pc := 14) d_SL_token_14 fd_SL_22 rfl e_v3 ?_
      refine k_iload_n (pc := 17) rfl z_m1 d_SL_token_17 ?_
      obtain ⟨v4, e_v4, hf⟩ := z_bd hf
      refine k_rald25 (pc := 18) d_SL_token_18 e_v4 ?_
      obtain ⟨v5, e_v5, hf⟩ := z_bd hf
      refine k_getI (pc := 19) d_SL_token_19 fd_SL_135 rfl e_v5 ?_
      rcases z_it hf with ⟨w21, hf⟩ | ⟨w21, hf⟩
      · refine k_ic_lt_t (pc := 22) (tgt := 27) w21 d_SL_token_22 rfl ?_
        refine k_aload_n (pc := 27) rfl z_m0 d_SL_token_27 ?_
        obtain ⟨v6, e_v6, hf⟩ := z_bd hf
        refine k_getR (pc := 28) d_SL_token_28 fd_SL_22 rfl e_v6 ?_
        refine k_iload_n (pc := 31) rfl z_m1 d_SL_token_31 ?_
        obtain ⟨v7, e_v7, hf⟩ := z_bd hf
        refine k_rald25 (pc := 32) d_SL_token_32 e_v7 ?_
        refine k_astore (pc := 33) (L' := [(4, (2, ((v7 : Nat) : Int))), (0, (2, ((a0 : Nat) : Int))), (1, (0, a1)), (2, (0, a2)), (3, (0, a3))]) d_SL_token_33 (Nat.le_of_ble_eq_true rfl) rfl ?_
        refine k_iload_n (pc := 35) rfl z_m4 d_SL_token_35 ?_
        rcases z_it hf with ⟨w10, hf⟩ | ⟨w10, hf⟩
        · refine k_tabI (pc := 36) (tgt := 68) (off := 32) d_SL_token_36 (by rw [w10]; decide) (by rw [w10]; decide) (by rw [w10]; rfl) rfl ?_
          refine k_aload (pc := 68) z_m0 d_SL_token_68 ?_
          obtain ⟨v8, e_v8, hf⟩ := z_bd hf
          refine k_getR (pc := 70) d_SL_token_70 fd_SL_138 rfl e_v8 ?_
          refine k_iload_n (pc := 73) rfl z_m3 d_SL_token_73 ?_
          obtain ⟨v9, e_v9, hf⟩ := z_bd hf
          refine k_iald (pc := 74) d_SL_token_74 e_v9 ?_
          cases hf
          exact k_iret (pc := 75) d_SL_token_75 rfl
        rcases z_it hf with ⟨w13, hf⟩ | ⟨w13, hf⟩
        · refine k_tabI (pc := 36) (tgt := 76) (off := 40) d_SL_token_36 (by rw [w13]; decide) (by rw [w13]; decide) (by rw [w13]; rfl) rfl ?_
          refine k_aload (pc := 76) z_m0 d_SL_token_76 ?_
          obtain ⟨v11, e_v11, hf⟩ := z_bd hf
          refine k_getR (pc := 78) d_SL_token_78 fd_SL_142 rfl e_v11 ?_
          refine k_iload_n (pc := 81) rfl z_m3 d_SL_token_81 ?_
          obtain ⟨v12, e_v12, hf⟩ := z_bd hf
          refine k_iald (pc := 82) d_SL_token_82 e_v12 ?_
          cases hf
          exact k_iret (pc := 83) d_SL_token_83 rfl
        rcases z_it hf with ⟨w16, hf⟩ | ⟨w16, hf⟩
        · refine k_tabI (pc := 36) (tgt := 84) (off := 48) d_SL_token_36 (by rw [w16]; decide) (by rw [w16]; decide) (by rw [w16]; rfl) rfl ?_
          refine k_aload (pc := 84) z_m0 d_SL_token_84 ?_
          refine k_iload_n (pc := 86) rfl z_m3 d_SL_token_86 ?_
          obtain ⟨n14, e_n14, hf⟩ := z_bd hf
          obtain ⟨q15, e_q15, hf⟩ := z_bd hf
          refine k_callVi (pc := 87) (as := [(0, a2)]) (rest := []) d_SL_token_87 cw_SL_token_145 rfl (Nat.le_of_ble_eq_true rfl) (z_ck_of e_n14) (t_Li_lastScope e_q15) ?_
          cases hf
          exact k_iret (pc := 90) d_SL_token_90 rfl
        rcases z_it hf with ⟨w20, hf⟩ | ⟨w20, hf⟩
        · refine k_tabI (pc := 36) (tgt := 91) (off := 55) d_SL_token_36 (by rw [w20]; decide) (by rw [w20]; decide) (by rw [w20]; rfl) rfl ?_
          refine k_aload_n (pc := 91) rfl z_m1 d_SL_token_91 ?_
          obtain ⟨v17, e_v17, hf⟩ := z_bd hf
          refine k_getR (pc := 92) d_SL_token_92 fd_SL_29 rfl e_v17 ?_
          refine k_aload (pc := 95) z_m0 d_SL_token_95 ?_
          refine k_iload_n (pc := 97) rfl z_m3 d_SL_token_97 ?_
          obtain ⟨n18, e_n18, hf⟩ := z_bd hf
          obtain ⟨q19, e_q19, hf⟩ := z_bd hf
          refine k_callVi (pc := 98) (as := [(2, ((v7 : Nat) : Int)), (0, a2)]) (rest := []) d_SL_token_98 cw_SL_token_149 rfl (Nat.le_of_ble_eq_true rfl) (z_ck_of e_n18) (t_Pa_colourOf e_q19) ?_
          cases hf
          exact k_iret (pc := 101) d_SL_token_101 rfl
        refine k_tabO (pc := 36) (tgt := 102) d_SL_token_36 (by omega) rfl ?_
        refine k_iconst (pc := 102) (zi_lit rfl) d_SL_token_102 ?_
        cases hf
        exact k_iret (pc := 103) d_SL_token_103 rfl
      · refine k_ic_lt_f (pc := 22) (tgt := 27) w21 d_SL_token_22 rfl ?_
        refine k_iconst (pc := 25) (zi_lit rfl) d_SL_token_25 ?_
        cases hf
        exact k_iret (pc := 26) d_SL_token_26 rfl
theorem t_SL_token {a0 : Nat} {a1 : Int} {a2 : Int} {a3 : Int} {h : zH} {r : Int × zH} (hf : f_SL_token a0 a1 a2 a3 h = some r) : zMt m_SL_token [(2, ((a0 : Nat) : Int)), (0, a1), (0, a2), (0, a3)] h (some (0, r.1), r.2) := zMt.of (by decide) (Nat.le_of_ble_eq_true rfl) (b_SL_token_0 a0 a1 a2 a3 h r hf)
theorem b_SL_marked_0 (a0 : Nat) (a1 : Int) (h : zH) (r : Int × zH) (hf : f_SL_marked a0 a1 h = some r) : zK m_SL_marked 0 [(0, (2, ((a0 : Nat) : Int))), (1, (0, a1))] [] h (some (0, r.1), r.2) := by
  unfold f_SL_marked at hf
  refine k_aload_n (pc := 0) rfl z_m0 d_SL_marked_0 ?_
  refine k_iload_n (pc := 1) rfl z_m1 d_SL_marked_1 ?_
  obtain ⟨n1, e_n1, hf⟩ := z_bd hf
  obtain ⟨q2, e_q2, hf⟩ := z_bd hf
  refine k_callVi (pc := 2) (as := [(0, a1)]) (rest := []) d_SL_marked_2 cw_SL_marked_126 rfl (Nat.le_of_ble_eq_true rfl) (z_ck_of e_n1) (t_SL_isLine e_q2) ?_
  rcases z_it hf with ⟨w7, hf⟩ | ⟨w7, hf⟩
  · refine k_if_eq_t (pc := 5) (tgt := 24) w7 d_SL_marked_5 rfl ?_
    refine k_iconst (pc := 24) (zi_lit rfl) d_SL_marked_24 ?_
    cases hf
    exact k_zret (pc := 25) d_SL_marked_25 rfl (Or.inl rfl)
  · refine k_if_eq_f (pc := 5) (tgt := 24) w7 d_SL_marked_5 rfl ?_
    refine k_aload_n (pc := 8) rfl z_m0 d_SL_marked_8 ?_
    obtain ⟨v3, e_v3, hf⟩ := z_bd hf
    refine k_getR (pc := 9) d_SL_marked_9 fd_SL_22 rfl e_v3 ?_
    refine k_iload_n (pc := 12) rfl z_m1 d_SL_marked_12 ?_
    obtain ⟨v4, e_v4, hf⟩ := z_bd hf
    refine k_rald25 (pc := 13) d_SL_marked_13 e_v4 ?_
    obtain ⟨v5, e_v5, hf⟩ := z_bd hf
    refine k_getI (pc := 14) d_SL_marked_14 fd_SL_153 rfl e_v5 ?_
    rcases z_it hf with ⟨w6, hf⟩ | ⟨w6, hf⟩
    · refine k_if_eq_t (pc := 17) (tgt := 24) w6 d_SL_marked_17 rfl ?_
      refine k_iconst (pc := 24) (zi_lit rfl) d_SL_marked_24 ?_
      cases hf
      exact k_zret (pc := 25) d_SL_marked_25 rfl (Or.inl rfl)
    · refine k_if_eq_f (pc := 17) (tgt := 24) w6 d_SL_marked_17 rfl ?_
      refine k_iconst (pc := 20) (zi_lit rfl) d_SL_marked_20 ?_
      refine k_goto (pc := 21) (tgt := 25) d_SL_marked_21 rfl ?_
      cases hf
      exact k_zret (pc := 25) d_SL_marked_25 rfl (Or.inr rfl)
theorem t_SL_marked {a0 : Nat} {a1 : Int} {h : zH} {r : Int × zH} (hf : f_SL_marked a0 a1 h = some r) : zMt m_SL_marked [(2, ((a0 : Nat) : Int)), (0, a1)] h (some (0, r.1), r.2) := zMt.of (by decide) (Nat.le_of_ble_eq_true rfl) (b_SL_marked_0 a0 a1 h r hf)
theorem b_St_isOpen_0 (a0 : Nat) (a1 : Int) (h : zH) (r : Int × zH) (hf : f_St_isOpen a0 a1 h = some r) : zK m_St_isOpen 0 [(0, (2, ((a0 : Nat) : Int))), (1, (0, a1))] [] h (some (0, r.1), r.2) := by
  unfold f_St_isOpen at hf
  refine k_iload_n (pc := 0) rfl z_m1 d_St_isOpen_0 ?_
  rcases z_it hf with ⟨w3, hf⟩ | ⟨w3, hf⟩
  · refine k_if_lt_t (pc := 1) (tgt := 16) w3 d_St_isOpen_1 rfl ?_
    refine k_iconst (pc := 16) (zi_lit rfl) d_St_isOpen_16 ?_
    cases hf
    exact k_zret (pc := 17) d_St_isOpen_17 rfl (Or.inl rfl)
  · refine k_if_lt_f (pc := 1) (tgt := 16) w3 d_St_isOpen_1 rfl ?_
    refine k_iload_n (pc := 4) rfl z_m1 d_St_isOpen_4 ?_
    refine k_aload_n (pc := 5) rfl z_m0 d_St_isOpen_5 ?_
    obtain ⟨v1, e_v1, hf⟩ := z_bd hf
    refine k_getI (pc := 6) d_St_isOpen_6 fd_St_22 rfl e_v1 ?_
    rcases z_it hf with ⟨w2, hf⟩ | ⟨w2, hf⟩
    · refine k_ic_ge_t (pc := 9) (tgt := 16) w2 d_St_isOpen_9 rfl ?_
      refine k_iconst (pc := 16) (zi_lit rfl) d_St_isOpen_16 ?_
      cases hf
      exact k_zret (pc := 17) d_St_isOpen_17 rfl (Or.inl rfl)
    · refine k_ic_ge_f (pc := 9) (tgt := 16) w2 d_St_isOpen_9 rfl ?_
      refine k_iconst (pc := 12) (zi_lit rfl) d_St_isOpen_12 ?_
      refine k_goto (pc := 13) (tgt := 17) d_St_isOpen_13 rfl ?_
      cases hf
      exact k_zret (pc := 17) d_St_isOpen_17 rfl (Or.inr rfl)
theorem t_St_isOpen {a0 : Nat} {a1 : Int} {h : zH} {r : Int × zH} (hf : f_St_isOpen a0 a1 h = some r) : zMt m_St_isOpen [(2, ((a0 : Nat) : Int)), (0, a1)] h (some (0, r.1), r.2) := zMt.of (by decide) (Nat.le_of_ble_eq_true rfl) (b_St_isOpen_0 a0 a1 h r hf)
theorem b_SL_state_0 (a0 : Nat) (a1 : Int) (a2 : Int) (h : zH) (r : Int × zH) (hf : f_SL_state a0 a1 a2 h = some r) : zK m_SL_state 0 [(0, (2, ((a0 : Nat) : Int))), (1, (0, a1)), (2, (0, a2))] [] h (some (0, r.1), r.2) := by
  unfold f_SL_state at hf
  refine k_aload_n (pc := 0) rfl z_m0 d_SL_state_0 ?_
  refine k_iload_n (pc := 1) rfl z_m1 d_SL_state_1 ?_
  obtain ⟨n1, e_n1, hf⟩ := z_bd hf
  obtain ⟨q2, e_q2, hf⟩ := z_bd hf
  refine k_callVi (pc := 2) (as := [(0, a1)]) (rest := []) d_SL_state_2 cw_SL_state_126 rfl (Nat.le_of_ble_eq_true rfl) (z_ck_of e_n1) (t_SL_isLine e_q2) ?_
  rcases z_it hf with ⟨w13, hf⟩ | ⟨w13, hf⟩
  · refine k_if_ne_f (pc := 5) (tgt := 10) w13 d_SL_state_5 rfl ?_
    refine k_iconst (pc := 8) (zi_lit rfl) d_SL_state_8 ?_
    cases hf
    exact k_iret (pc := 9) d_SL_state_9 rfl
  · refine k_if_ne_t (pc := 5) (tgt := 10) w13 d_SL_state_5 rfl ?_
    refine k_aload_n (pc := 10) rfl z_m0 d_SL_state_10 ?_
    obtain ⟨v3, e_v3, hf⟩ := z_bd hf
    refine k_getR (pc := 11) d_SL_state_11 fd_SL_22 rfl e_v3 ?_
    refine k_iload_n (pc := 14) rfl z_m1 d_SL_state_14 ?_
    obtain ⟨v4, e_v4, hf⟩ := z_bd hf
    refine k_rald25 (pc := 15) d_SL_state_15 e_v4 ?_
    obtain ⟨v5, e_v5, hf⟩ := z_bd hf
    refine k_getR (pc := 16) d_SL_state_16 fd_SL_157 rfl e_v5 ?_
    refine k_astore_n (pc := 19) (L' := [(3, (2, ((v5 : Nat) : Int))), (0, (2, ((a0 : Nat) : Int))), (1, (0, a1)), (2, (0, a2))]) rfl d_SL_state_19 (Nat.le_of_ble_eq_true rfl) rfl ?_
    refine k_iload_n (pc := 20) rfl z_m3 d_SL_state_20 ?_
    refine k_iconst (pc := 21) (zi_lit rfl) d_SL_state_21 ?_
    rcases z_it hf with ⟨w12, hf⟩ | ⟨w12, hf⟩
    · refine k_ic_ne_f (pc := 22) (tgt := 30) w12 d_SL_state_22 rfl ?_
      refine k_aload_n (pc := 25) rfl z_m0 d_SL_state_25 ?_
      obtain ⟨v11, e_v11, hf⟩ := z_bd hf
      refine k_getI (pc := 26) d_SL_state_26 fd_SL_159 rfl e_v11 ?_
      cases hf
      exact k_iret (pc := 29) d_SL_state_29 rfl
    · refine k_ic_ne_t (pc := 22) (tgt := 30) w12 d_SL_state_22 rfl ?_
      refine k_aload_n (pc := 30) rfl z_m0 d_SL_state_30 ?_
      refine k_iload_n (pc := 31) rfl z_m3 d_SL_state_31 ?_
      obtain ⟨n6, e_n6, hf⟩ := z_bd hf
      obtain ⟨q7, e_q7, hf⟩ := z_bd hf
      refine k_callVi (pc := 32) (as := [(0, a2)]) (rest := []) d_SL_state_32 cw_SL_state_162 rfl (Nat.le_of_ble_eq_true rfl) (z_ck_of e_n6) (t_St_isOpen e_q7) ?_
      rcases z_it hf with ⟨w10, hf⟩ | ⟨w10, hf⟩
      · refine k_if_eq_t (pc := 35) (tgt := 47) w10 d_SL_state_35 rfl ?_
        refine k_iconst (pc := 47) (zi_lit rfl) d_SL_state_47 ?_
        cases hf
        exact k_iret (pc := 48) d_SL_state_48 rfl
      · refine k_if_eq_f (pc := 35) (tgt := 47) w10 d_SL_state_35 rfl ?_
        refine k_aload_n (pc := 38) rfl z_m0 d_SL_state_38 ?_
        obtain ⟨v8, e_v8, hf⟩ := z_bd hf
        refine k_getR (pc := 39) d_SL_state_39 fd_SL_165 rfl e_v8 ?_
        refine k_iload_n (pc := 42) rfl z_m3 d_SL_state_42 ?_
        obtain ⟨v9, e_v9, hf⟩ := z_bd hf
        refine k_iald (pc := 43) d_SL_state_43 e_v9 ?_
        refine k_goto (pc := 44) (tgt := 48) d_SL_state_44 rfl ?_
        cases hf
        exact k_iret (pc := 48) d_SL_state_48 rfl
theorem t_SL_state {a0 : Nat} {a1 : Int} {a2 : Int} {h : zH} {r : Int × zH} (hf : f_SL_state a0 a1 a2 h = some r) : zMt m_SL_state [(2, ((a0 : Nat) : Int)), (0, a1), (0, a2)] h (some (0, r.1), r.2) := zMt.of (by decide) (Nat.le_of_ble_eq_true rfl) (b_SL_state_0 a0 a1 a2 h r hf)
theorem b_SL_text_0 (a0 : Nat) (a1 : Int) (a2 : Int) (a3 : Int) (h : zH) (r : Int × zH) (hf : f_SL_text a0 a1 a2 a3 h = some r) : zK m_SL_text 0 [(0, (2, ((a0 : Nat) : Int))), (1, (0, a1)), (2, (0, a2)), (3, (0, a3))] [] h (some (0, r.1), r.2) := by
  unfold f_SL_text at hf
  refine k_aload_n (pc := 0) rfl z_m0 d_SL_text_0 ?_
  refine k_iload_n (pc := 1) rfl z_m1 d_SL_text_1 ?_
  obtain ⟨n1, e_n1, hf⟩ := z_bd hf
  obtain ⟨q2, e_q2, hf⟩ := z_bd hf
  refine k_callVi (pc := 2) (as := [(0, a1)]) (rest := []) d_SL_text_2 cw_SL_text_126 rfl (Nat.le_of_ble_eq_true rfl) (z_ck_of e_n1) (t_SL_isLine e_q2) ?_
  rcases z_it hf with ⟨w16, hf⟩ | ⟨w16, hf⟩
  · refine k_if_eq_t (pc := 5) (tgt := 34) w16 d_SL_text_5 rfl ?_
    refine k_iconst (pc := 34) (zi_lit rfl) d_SL_text_34 ?_
    cases hf
    exact k_iret (pc := 35) d_SL_text_35 rfl
  · refine k_if_eq_f (pc := 5) (tgt := 34) w16 d_SL_text_5 rfl ?_
    refine k_iload_n (pc := 8) rfl z_m3 d_SL_text_8 ?_
    refine k_iconst (pc := 9) (zi_lit rfl) d_SL_text_9 ?_
    rcases z_it hf with ⟨w15, hf⟩ | ⟨w15, hf⟩
    · refine k_ic_lt_t (pc := 10) (tgt := 34) w15 d_SL_text_10 rfl ?_
      refine k_iconst (pc := 34) (zi_lit rfl) d_SL_text_34 ?_
      cases hf
      exact k_iret (pc := 35) d_SL_text_35 rfl
    · refine k_ic_lt_f (pc := 10) (tgt := 34) w15 d_SL_text_10 rfl ?_
      refine k_iload_n (pc := 13) rfl z_m3 d_SL_text_13 ?_
      refine k_iconst (pc := 14) (zi_lit rfl) d_SL_text_14 ?_
      rcases z_it hf with ⟨w14, hf⟩ | ⟨w14, hf⟩
      · refine k_ic_gt_t (pc := 15) (tgt := 34) w14 d_SL_text_15 rfl ?_
        refine k_iconst (pc := 34) (zi_lit rfl) d_SL_text_34 ?_
        cases hf
        exact k_iret (pc := 35) d_SL_text_35 rfl
      · refine k_ic_gt_f (pc := 15) (tgt := 34) w14 d_SL_text_15 rfl ?_
        refine k_aload_n (pc := 18) rfl z_m0 d_SL_text_18 ?_
        obtain ⟨v3, e_v3, hf⟩ := z_bd hf
        refine k_getR (pc := 19) d_SL_text_19 fd_SL_22 rfl e_v3 ?_
        refine k_iload_n (pc := 22) rfl z_m1 d_SL_text_22 ?_
        obtain ⟨v4, e_v4, hf⟩ := z_bd hf
        refine k_rald25 (pc := 23) d_SL_text_23 e_v4 ?_
        obtain ⟨v5, e_v5, hf⟩ := z_bd hf
        refine k_getR (pc := 24) d_SL_text_24 fd_SL_157 rfl e_v5 ?_
        refine k_iload_n (pc := 27) rfl z_m2 d_SL_text_27 ?_
        obtain ⟨n6, e_n6, hf⟩ := z_bd hf
        obtain ⟨q7, e_q7, hf⟩ := z_bd hf
        refine k_callVi (pc := 28) (as := [(0, a2)]) (rest := []) d_SL_text_28 cw_SL_text_162 rfl (Nat.le_of_ble_eq_true rfl) (z_ck_of e_n6) (t_St_isOpen e_q7) ?_
        rcases z_it hf with ⟨w13, hf⟩ | ⟨w13, hf⟩
        · refine k_if_ne_f (pc := 31) (tgt := 36) w13 d_SL_text_31 rfl ?_
          refine k_iconst (pc := 34) (zi_lit rfl) d_SL_text_34 ?_
          cases hf
          exact k_iret (pc := 35) d_SL_text_35 rfl
        · refine k_if_ne_t (pc := 31) (tgt := 36) w13 d_SL_text_31 rfl ?_
          refine k_aload_n (pc := 36) rfl z_m0 d_SL_text_36 ?_
          obtain ⟨v8, e_v8, hf⟩ := z_bd hf
          refine k_getR (pc := 37) d_SL_text_37 fd_SL_22 rfl e_v8 ?_
          refine k_iload_n (pc := 40) rfl z_m1 d_SL_text_40 ?_
          obtain ⟨v9, e_v9, hf⟩ := z_bd hf
          refine k_rald25 (pc := 41) d_SL_text_41 e_v9 ?_
          obtain ⟨v10, e_v10, hf⟩ := z_bd hf
          refine k_getR (pc := 42) d_SL_text_42 fd_SL_157 rfl e_v10 ?_
          refine k_iload_n (pc := 45) rfl z_m2 d_SL_text_45 ?_
          refine k_iload_n (pc := 46) rfl z_m3 d_SL_text_46 ?_
          obtain ⟨n11, e_n11, hf⟩ := z_bd hf
          obtain ⟨q12, e_q12, hf⟩ := z_bd hf
          refine k_callVi (pc := 47) (as := [(0, a2), (0, a3)]) (rest := []) d_SL_text_47 cw_SL_text_168 rfl (Nat.le_of_ble_eq_true rfl) (z_ck_of e_n11) (t_St_textLength e_q12) ?_
          cases hf
          exact k_iret (pc := 50) d_SL_text_50 rfl
theorem t_SL_text {a0 : Nat} {a1 : Int} {a2 : Int} {a3 : Int} {h : zH} {r : Int × zH} (hf : f_SL_text a0 a1 a2 a3 h = some r) : zMt m_SL_text [(2, ((a0 : Nat) : Int)), (0, a1), (0, a2), (0, a3)] h (some (0, r.1), r.2) := zMt.of (by decide) (Nat.le_of_ble_eq_true rfl) (b_SL_text_0 a0 a1 a2 a3 h r hf)
theorem b_SL_find_0 (a0 : Nat) (a1 : Int) (a2 : Int) (a3 : Int) (a4 : Int) (h : zH) (r : Int × zH) (hf : f_SL_find a0 a1 a2 a3 a4 h = some r) : zK m_SL_find 0 [(0, (2, ((a0 : Nat) : Int))), (1, (0, a1)), (2, (0, a2)), (3, (0, a3)), (4, (0, a4))] [] h (some (0, r.1), r.2) := by
  unfold f_SL_find at hf
  refine k_iload_n (pc := 0) rfl z_m1 d_SL_find_0 ?_
  refine k_iconst (pc := 1) (zi_lit rfl) d_SL_find_1 ?_
  rcases z_it hf with ⟨w37, hf⟩ | ⟨w37, hf⟩
  · refine k_ic_lt_t (pc := 2) (tgt := 24) w37 d_SL_find_2 rfl ?_
    refine k_iconst (pc := 24) (zi_lit rfl) d_SL_find_24 ?_
    cases hf
    exact k_iret (pc := 25) d_SL_find_25 rfl
  · refine k_ic_lt_f (pc := 2) (tgt := 24) w37 d_SL_find_2 rfl ?_
    refine k_iload_n (pc := 5) rfl z_m1 d_SL_find_5 ?_
    refine k_aload_n (pc := 6) rfl z_m0 d_SL_find_6 ?_
    obtain ⟨v1, e_v1, hf⟩ := z_bd hf
    refine k_getR (pc := 7) d_SL_find_7 fd_SL_57 rfl e_v1 ?_
    obtain ⟨v2, e_v2, hf⟩ := z_bd hf
    refine k_getI (pc := 10) d_SL_find_10 fd_SL_87 rfl e_v2 ?_
    rcases z_it hf with ⟨w36, hf⟩ | ⟨w36, hf⟩
    · refine k_ic_gt_t (pc := 13) (tgt := 24) w36 d_SL_find_13 rfl ?_
      refine k_iconst (pc := 24) (zi_lit rfl) d_SL_find_24 ?_
      cases hf
      exact k_iret (pc := 25) d_SL_find_25 rfl
    · refine k_ic_gt_f (pc := 13) (tgt := 24) w36 d_SL_find_13 rfl ?_
      refine k_aload_n (pc := 16) rfl z_m0 d_SL_find_16 ?_
      refine k_iload_n (pc := 17) rfl z_m2 d_SL_find_17 ?_
      obtain ⟨n3, e_n3, hf⟩ := z_bd hf
      obtain ⟨q4, e_q4, hf⟩ := z_bd hf
      refine k_callVi (pc := 18) (as := [(0, a2)]) (rest := []) d_SL_find_18 cw_SL_find_126 rfl (Nat.le_of_ble_eq_true rfl) (z_ck_of e_n3) (t_SL_isLine e_q4) ?_
      rcases z_it hf with ⟨w35, hf⟩ | ⟨w35, hf⟩
      · refine k_if_ne_f (pc := 21) (tgt := 26) w35 d_SL_find_21 rfl ?_
        refine k_iconst (pc := 24) (zi_lit rfl) d_SL_find_24 ?_
        cases hf
        exact k_iret (pc := 25) d_SL_find_25 rfl
      · refine k_if_ne_t (pc := 21) (tgt := 26) w35 d_SL_find_21 rfl ?_
        refine k_iload_n (pc := 26) rfl z_m3 d_SL_find_26 ?_
        rcases z_it hf with ⟨w34, hf⟩ | ⟨w34, hf⟩
        · refine k_if_lt_t (pc := 27) (tgt := 55) w34 d_SL_find_27 rfl ?_
          refine k_iconst (pc := 55) (zi_lit rfl) d_SL_find_55 ?_
          cases hf
          exact k_iret (pc := 56) d_SL_find_56 rfl
        · refine k_if_lt_f (pc := 27) (tgt := 55) w34 d_SL_find_27 rfl ?_
          refine k_iload_n (pc := 30) rfl z_m3 d_SL_find_30 ?_
          refine k_aload_n (pc := 31) rfl z_m0 d_SL_find_31 ?_
          obtain ⟨v5, e_v5, hf⟩ := z_bd hf
          refine k_getR (pc := 32) d_SL_find_32 fd_SL_22 rfl e_v5 ?_
          refine k_iload_n (pc := 35) rfl z_m2 d_SL_find_35 ?_
          obtain ⟨v6, e_v6, hf⟩ := z_bd hf
          refine k_rald25 (pc := 36) d_SL_find_36 e_v6 ?_
          obtain ⟨v7, e_v7, hf⟩ := z_bd hf
          refine k_getI (pc := 37) d_SL_find_37 fd_SL_132 rfl e_v7 ?_
          rcases z_it hf with ⟨w33, hf⟩ | ⟨w33, hf⟩
          · refine k_ic_gt_t (pc := 40) (tgt := 55) w33 d_SL_find_40 rfl ?_
            refine k_iconst (pc := 55) (zi_lit rfl) d_SL_find_55 ?_
            cases hf
            exact k_iret (pc := 56) d_SL_find_56 rfl
          · refine k_ic_gt_f (pc := 40) (tgt := 55) w33 d_SL_find_40 rfl ?_
            refine k_iload (pc := 43) z_m4 d_SL_find_43 ?_
            rcases z_it hf with ⟨w32, hf⟩ | ⟨w32, hf⟩
            · refine k_if_lt_t (pc := 45) (tgt := 55) w32 d_SL_find_45 rfl ?_
              refine k_iconst (pc := 55) (zi_lit rfl) d_SL_find_55 ?_
              cases hf
              exact k_iret (pc := 56) d_SL_find_56 rfl
            · refine k_if_lt_f (pc := 45) (tgt := 55) w32 d_SL_find_45 rfl ?_
              refine k_iload (pc := 48) z_m4 d_SL_find_48 ?_
              refine k_bipush (pc := 50) (zi_lit rfl) (by decide) d_SL_find_50 ?_
              rcases z_it hf with ⟨w31, hf⟩ | ⟨w31, hf⟩
              · refine k_ic_le_t (pc := 52) (tgt := 57) w31 d_SL_find_52 rfl ?_
                refine k_aload_n (pc := 57) rfl z_m0 d_SL_find_57 ?_
                obtain ⟨v8, e_v8, hf⟩ := z_bd hf
                refine k_getR (pc := 58) d_SL_find_58 fd_SL_57 rfl e_v8 ?_
                obtain ⟨v9, e_v9, hf⟩ := z_bd hf
                refine k_getR (pc := 61) d_SL_find_61 fd_SL_171 rfl e_v9 ?_
                refine k_astore (pc := 64) (L' := [(5, (2, ((v9 : Nat) : Int))), (0, (2, ((a0 : Nat) : Int))), (1, (0, a1)), (2, (0, a2)), (3, (0, a3)), (4, (0, a4))]) d_SL_find_64 (Nat.le_of_ble_eq_true rfl) rfl ?_
                refine k_aload (pc := 66) z_m0 d_SL_find_66 ?_
                refine k_aload_n (pc := 68) rfl z_m1 d_SL_find_68 ?_
                obtain ⟨v10, e_v10, hf⟩ := z_bd hf
                refine k_getR (pc := 69) d_SL_find_69 fd_SL_57 rfl e_v10 ?_
                obtain ⟨v11, e_v11, hf⟩ := z_bd hf
                refine k_getR (pc := 72) d_SL_find_72 fd_SL_105 rfl e_v11 ?_
                refine k_iload_n (pc := 75) rfl z_m2 d_SL_find_75 ?_
                obtain ⟨v12, e_v12, hf⟩ := z_bd hf
                refine k_rald24 (pc := 76) d_SL_find_76 e_v12 ?_
                obtain ⟨v13, e_v13, hf⟩ := z_bd hf
                refine k_getR (pc := 77) d_SL_find_77 fd_SL_77 rfl e_v13 ?_
                refine k_aload_n (pc := 80) rfl z_m1 d_SL_find_80 ?_
                obtain ⟨v14, e_v14, hf⟩ := z_bd hf
                refine k_getR (pc := 81) d_SL_find_81 fd_SL_22 rfl e_v14 ?_
                refine k_iload_n (pc := 84) rfl z_m3 d_SL_find_84 ?_
                obtain ⟨v15, e_v15, hf⟩ := z_bd hf
                refine k_rald25 (pc := 85) d_SL_find_85 e_v15 ?_
                refine k_iload_n (pc := 86) rfl z_m4 d_SL_find_86 ?_
                refine k_aload_n (pc := 87) rfl z_m1 d_SL_find_87 ?_
                obtain ⟨v16, e_v16, hf⟩ := z_bd hf
                refine k_getR (pc := 88) d_SL_find_88 fd_SL_36 rfl e_v16 ?_
                obtain ⟨n17, e_n17, hf⟩ := z_bd hf
                obtain ⟨h18, e_h18, hf⟩ := z_bd hf
                refine k_callVv (pc := 91) (as := [(2, ((v13 : Nat) : Int)), (2, ((v15 : Nat) : Int)), (0, a3), (2, ((v16 : Nat) : Int))]) (rest := []) d_SL_find_91 cw_SL_find_175 rfl (Nat.le_of_ble_eq_true rfl) (z_ck_of e_n17) (t_Se_run e_h18) ?_
                refine k_iload (pc := 94) z_m5 d_SL_find_94 ?_
                refine k_iconst (pc := 96) (zi_lit rfl) d_SL_find_96 ?_
                rcases z_it hf with ⟨w30, hf⟩ | ⟨w30, hf⟩
                · refine k_ic_ne_f (pc := 97) (tgt := 106) w30 d_SL_find_97 rfl ?_
                  refine k_aload (pc := 100) z_m0 d_SL_find_100 ?_
                  obtain ⟨v29, e_v29, hf⟩ := z_bd hf
                  refine k_getI (pc := 102) d_SL_find_102 fd_SL_181 rfl e_v29 ?_
                  cases hf
                  exact k_iret (pc := 105) d_SL_find_105 rfl
                · refine k_ic_ne_t (pc := 97) (tgt := 106) w30 d_SL_find_97 rfl ?_
                  refine k_aload (pc := 106) z_m0 d_SL_find_106 ?_
                  obtain ⟨v19, e_v19, hf⟩ := z_bd hf
                  refine k_getI (pc := 108) d_SL_find_108 fd_SL_184 rfl e_v19 ?_
                  rcases z_it hf with ⟨w28, hf⟩ | ⟨w28, hf⟩
                  · refine k_if_eq_t (pc := 111) (tgt := 117) w28 d_SL_find_111 rfl ?_
                    refine k_iload (pc := 117) z_m5 d_SL_find_117 ?_
                    refine k_iconst (pc := 119) (zi_lit rfl) d_SL_find_119 ?_
                    rcases z_it hf with ⟨w27, hf⟩ | ⟨w27, hf⟩
                    · refine k_ic_ge_t (pc := 120) (tgt := 142) w27 d_SL_find_120 rfl ?_
                      refine k_aload (pc := 142) z_m0 d_SL_find_142 ?_
                      obtain ⟨v20, e_v20, hf⟩ := z_bd hf
                      refine k_getI (pc := 144) d_SL_find_144 fd_SL_187 rfl e_v20 ?_
                      refine k_iconst (pc := 147) (zi_lit rfl) d_SL_find_147 ?_
                      rcases z_it hf with ⟨w23, hf⟩ | ⟨w23, hf⟩
                      · refine k_ic_ne_f (pc := 148) (tgt := 155) w23 d_SL_find_148 rfl ?_
                        refine k_iconst (pc := 151) (zi_lit rfl) d_SL_find_151 ?_
                        refine k_goto (pc := 152) (tgt := 165) d_SL_find_152 rfl ?_
                        cases hf
                        exact k_iret (pc := 165) d_SL_find_165 rfl
                      · refine k_ic_ne_t (pc := 148) (tgt := 155) w23 d_SL_find_148 rfl ?_
                        refine k_aload (pc := 155) z_m0 d_SL_find_155 ?_
                        obtain ⟨v21, e_v21, hf⟩ := z_bd hf
                        refine k_getR (pc := 157) d_SL_find_157 fd_SL_192 rfl e_v21 ?_
                        refine k_iload (pc := 160) z_m5 d_SL_find_160 ?_
                        refine k_iconst (pc := 162) (zi_lit rfl) d_SL_find_162 ?_
                        refine k_isub (pc := 163) d_SL_find_163 ?_
                        obtain ⟨v22, e_v22, hf⟩ := z_bd hf
                        refine k_iald (pc := 164) d_SL_find_164 e_v22 ?_
                        cases hf
                        exact k_iret (pc := 165) d_SL_find_165 rfl
                    · refine k_ic_ge_f (pc := 120) (tgt := 142) w27 d_SL_find_120 rfl ?_
                      refine k_iload (pc := 123) z_m5 d_SL_find_123 ?_
                      rcases z_it hf with ⟨w26, hf⟩ | ⟨w26, hf⟩
                      · refine k_if_ne_f (pc := 125) (tgt := 136) w26 d_SL_find_125 rfl ?_
                        refine k_aload (pc := 128) z_m0 d_SL_find_128 ?_
                        obtain ⟨v25, e_v25, hf⟩ := z_bd hf
                        refine k_getI (pc := 130) d_SL_find_130 fd_SL_187 rfl e_v25 ?_
                        refine k_goto (pc := 133) (tgt := 141) d_SL_find_133 rfl ?_
                        cases hf
                        exact k_iret (pc := 141) d_SL_find_141 rfl
                      · refine k_if_ne_t (pc := 125) (tgt := 136) w26 d_SL_find_125 rfl ?_
                        refine k_aload (pc := 136) z_m0 d_SL_find_136 ?_
                        obtain ⟨v24, e_v24, hf⟩ := z_bd hf
                        refine k_getI (pc := 138) d_SL_find_138 fd_SL_190 rfl e_v24 ?_
                        cases hf
                        exact k_iret (pc := 141) d_SL_find_141 rfl
                  · refine k_if_eq_f (pc := 111) (tgt := 117) w28 d_SL_find_111 rfl ?_
                    refine k_bipush (pc := 114) (zi_lit rfl) (by decide) d_SL_find_114 ?_
                    cases hf
                    exact k_iret (pc := 116) d_SL_find_116 rfl
              · refine k_ic_le_f (pc := 52) (tgt := 57) w31 d_SL_find_52 rfl ?_
                refine k_iconst (pc := 55) (zi_lit rfl) d_SL_find_55 ?_
                cases hf
                exact k_iret (pc := 56) d_SL_find_56 rfl
theorem t_SL_find {a0 : Nat} {a1 : Int} {a2 : Int} {a3 : Int} {a4 : Int} {h : zH} {r : Int × zH} (hf : f_SL_find a0 a1 a2 a3 a4 h = some r) : zMt m_SL_find [(2, ((a0 : Nat) : Int)), (0, a1), (0, a2), (0, a3), (0, a4)] h (some (0, r.1), r.2) := zMt.of (by decide) (Nat.le_of_ble_eq_true rfl) (b_SL_find_0 a0 a1 a2 a3 a4 h r hf)
