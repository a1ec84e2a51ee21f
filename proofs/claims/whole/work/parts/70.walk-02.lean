/-! The bytecode comes to what the functions answer; printed by wip/gen/gen.py -/
theorem b_St_copy_0 (a0 : Nat) (a1 : Nat) (h : zH) (r : zH) (hf : f_St_copy a0 a1 h = some r) : zK m_St_copy 0 [(0, (2, ((a0 : Nat) : Int))), (1, (2, ((a1 : Nat) : Int)))] [] h (none, r) := by
  unfold f_St_copy at hf
  refine k_aload_n (pc := 0) rfl z_m0 d_St_copy_0 ?_
  refine k_aload_n (pc := 1) rfl z_m1 d_St_copy_1 ?_
  obtain ⟨v1, e_v1, hf⟩ := z_bd hf
  refine k_getI (pc := 2) d_St_copy_2 fd_St_22 rfl e_v1 ?_
  obtain ⟨h2, e_h2, hf⟩ := z_bd hf
  refine k_putI (pc := 5) d_St_copy_5 fd_St_22 (fun q => by cases q) rfl e_h2 ?_
  refine k_aload_n (pc := 8) rfl z_m1 d_St_copy_8 ?_
  obtain ⟨v3, e_v3, hf⟩ := z_bd hf
  refine k_getR (pc := 9) d_St_copy_9 fd_St_9 rfl e_v3 ?_
  refine k_iconst (pc := 12) (zi_lit rfl) d_St_copy_12 ?_
  refine k_aload_n (pc := 13) rfl z_m0 d_St_copy_13 ?_
  obtain ⟨v4, e_v4, hf⟩ := z_bd hf
  refine k_getR (pc := 14) d_St_copy_14 fd_St_9 rfl e_v4 ?_
  refine k_iconst (pc := 17) (zi_lit rfl) d_St_copy_17 ?_
  refine k_iconst (pc := 18) (zi_lit rfl) d_St_copy_18 ?_
  obtain ⟨h5, e_h5, hf⟩ := z_bd hf
  refine k_copy (pc := 19) (Or.inl ⟨rfl, rfl⟩) d_St_copy_19 w_St_31 w_cp1 w_cp2 w_sys (by decide) (Nat.le_of_ble_eq_true rfl) e_h5 ?_
  refine k_aload_n (pc := 22) rfl z_m1 d_St_copy_22 ?_
  obtain ⟨v6, e_v6, hf⟩ := z_bd hf
  refine k_getR (pc := 23) d_St_copy_23 fd_St_15 rfl e_v6 ?_
  refine k_iconst (pc := 26) (zi_lit rfl) d_St_copy_26 ?_
  refine k_aload_n (pc := 27) rfl z_m0 d_St_copy_27 ?_
  obtain ⟨v7, e_v7, hf⟩ := z_bd hf
  refine k_getR (pc := 28) d_St_copy_28 fd_St_15 rfl e_v7 ?_
  refine k_iconst (pc := 31) (zi_lit rfl) d_St_copy_31 ?_
  refine k_aload_n (pc := 32) rfl z_m0 d_St_copy_32 ?_
  obtain ⟨v8, e_v8, hf⟩ := z_bd hf
  refine k_getR (pc := 33) d_St_copy_33 fd_St_15 rfl e_v8 ?_
  obtain ⟨v9, e_v9, hf⟩ := z_bd hf
  refine k_alen (pc := 36) (by decide) d_St_copy_36 e_v9 ?_
  obtain ⟨h10, e_h10, hf⟩ := z_bd hf
  refine k_copy (pc := 37) (Or.inl ⟨rfl, rfl⟩) d_St_copy_37 w_St_31 w_cp1 w_cp2 w_sys (by decide) (Nat.le_of_ble_eq_true rfl) e_h10 ?_
  refine k_aload_n (pc := 40) rfl z_m1 d_St_copy_40 ?_
  obtain ⟨v11, e_v11, hf⟩ := z_bd hf
  refine k_getR (pc := 41) d_St_copy_41 fd_St_18 rfl e_v11 ?_
  refine k_iconst (pc := 44) (zi_lit rfl) d_St_copy_44 ?_
  refine k_aload_n (pc := 45) rfl z_m0 d_St_copy_45 ?_
  obtain ⟨v12, e_v12, hf⟩ := z_bd hf
  refine k_getR (pc := 46) d_St_copy_46 fd_St_18 rfl e_v12 ?_
  refine k_iconst (pc := 49) (zi_lit rfl) d_St_copy_49 ?_
  refine k_aload_n (pc := 50) rfl z_m0 d_St_copy_50 ?_
  obtain ⟨v13, e_v13, hf⟩ := z_bd hf
  refine k_getR (pc := 51) d_St_copy_51 fd_St_18 rfl e_v13 ?_
  obtain ⟨v14, e_v14, hf⟩ := z_bd hf
  refine k_alen (pc := 54) (by decide) d_St_copy_54 e_v14 ?_
  obtain ⟨h15, e_h15, hf⟩ := z_bd hf
  refine k_copy (pc := 55) (Or.inr ⟨rfl, rfl⟩) d_St_copy_55 w_St_31 w_cp1 w_cp2 w_sys (by decide) (Nat.le_of_ble_eq_true rfl) e_h15 ?_
  cases hf
  exact k_ret (pc := 58) d_St_copy_58 rfl
theorem t_St_copy {a0 : Nat} {a1 : Nat} {h : zH} {r : zH} (hf : f_St_copy a0 a1 h = some r) : zMt m_St_copy [(2, ((a0 : Nat) : Int)), (2, ((a1 : Nat) : Int))] h (none, r) := zMt.of (by decide) (Nat.le_of_ble_eq_true rfl) (b_St_copy_0 a0 a1 h r hf)
theorem b_St_innermost_0 (a0 : Nat) (h : zH) (r : Int × zH) (hf : f_St_innermost a0 h = some r) : zK m_St_innermost 0 [(0, (2, ((a0 : Nat) : Int)))] [] h (some (0, r.1), r.2) := by
  unfold f_St_innermost at hf
  refine k_aload_n (pc := 0) rfl z_m0 d_St_innermost_0 ?_
  obtain ⟨v1, e_v1, hf⟩ := z_bd hf
  refine k_getI (pc := 1) d_St_innermost_1 fd_St_22 rfl e_v1 ?_
  rcases z_it hf with ⟨w5, hf⟩ | ⟨w5, hf⟩
  · refine k_if_ne_f (pc := 4) (tgt := 11) w5 d_St_innermost_4 rfl ?_
    refine k_iconst (pc := 7) (zi_lit rfl) d_St_innermost_7 ?_
    refine k_goto (pc := 8) (tgt := 22) d_St_innermost_8 rfl ?_
    cases hf
    exact k_iret (pc := 22) d_St_innermost_22 rfl
  · refine k_if_ne_t (pc := 4) (tgt := 11) w5 d_St_innermost_4 rfl ?_
    refine k_aload_n (pc := 11) rfl z_m0 d_St_innermost_11 ?_
    obtain ⟨v2, e_v2, hf⟩ := z_bd hf
    refine k_getR (pc := 12) d_St_innermost_12 fd_St_9 rfl e_v2 ?_
    refine k_aload_n (pc := 15) rfl z_m0 d_St_innermost_15 ?_
    obtain ⟨v3, e_v3, hf⟩ := z_bd hf
    refine k_getI (pc := 16) d_St_innermost_16 fd_St_22 rfl e_v3 ?_
    refine k_iconst (pc := 19) (zi_lit rfl) d_St_innermost_19 ?_
    refine k_isub (pc := 20) d_St_innermost_20 ?_
    obtain ⟨v4, e_v4, hf⟩ := z_bd hf
    refine k_iald (pc := 21) d_St_innermost_21 e_v4 ?_
    cases hf
    exact k_iret (pc := 22) d_St_innermost_22 rfl
theorem t_St_innermost {a0 : Nat} {h : zH} {r : Int × zH} (hf : f_St_innermost a0 h = some r) : zMt m_St_innermost [(2, ((a0 : Nat) : Int))] h (some (0, r.1), r.2) := zMt.of (by decide) (Nat.le_of_ble_eq_true rfl) (b_St_innermost_0 a0 h r hf)
theorem b_Gr_listRulesOf_43 (c2 : Nat → Int → Int → zH → Option (zH)) (k2 : ∀ (x0 : Nat) (x1 : Int) (x2 : Int) (g : zH) (r : zH), c2 x0 x1 x2 g = some r → zK m_Gr_listRulesOf 2 [(0, (2, ((x0 : Nat) : Int))), (1, (0, x1)), (2, (0, x2))] [] g (none, r)) (a0 : Nat) (a1 : Int) (a2 : Int) (h : zH) (r : zH) (hf : f_Gr_listRulesOf_43 c2 a0 a1 a2 h = some r) : zK m_Gr_listRulesOf 43 [(0, (2, ((a0 : Nat) : Int))), (1, (0, a1)), (2, (0, a2))] [] h (none, r) := by
  unfold f_Gr_listRulesOf_43 at hf
  refine k_iinc (pc := 43) (L' := [(2, (0, zw (a2 + 1))), (0, (2, ((a0 : Nat) : Int))), (1, (0, a1))]) z_m2 d_Gr_listRulesOf_43 (Nat.le_of_ble_eq_true rfl) rfl ?_
  refine k_goto (pc := 46) (tgt := 2) d_Gr_listRulesOf_46 rfl ?_
  refine k_sub [1, 2, 0] rfl ?_
  exact k2 a0 a1 (zw (a2 + 1)) h _ hf
theorem b_Gr_listRulesOf_2 : ∀ (n : Nat) (a0 : Nat) (a1 : Int) (a2 : Int) (h : zH) (r : zH), f_Gr_listRulesOf_2 n a0 a1 a2 h = some r → zK m_Gr_listRulesOf 2 [(0, (2, ((a0 : Nat) : Int))), (1, (0, a1)), (2, (0, a2))] [] h (none, r) := by
  intro n
  induction n with
  | zero =>
    intro a0 a1 a2 h r hf
    cases hf
  | succ n ih =>
    intro a0 a1 a2 h r hf
    unfold f_Gr_listRulesOf_2 at hf
    refine k_iload_n (pc := 2) rfl z_m2 d_Gr_listRulesOf_2 ?_
    refine k_aload_n (pc := 3) rfl z_m0 d_Gr_listRulesOf_3 ?_
    obtain ⟨v1, e_v1, hf⟩ := z_bd hf
    refine k_getI (pc := 4) d_Gr_listRulesOf_4 fd_Gr_45 rfl e_v1 ?_
    rcases z_it hf with ⟨w11, hf⟩ | ⟨w11, hf⟩
    · refine k_ic_gt_t (pc := 7) (tgt := 49) w11 d_Gr_listRulesOf_7 rfl ?_
      cases hf
      exact k_ret (pc := 49) d_Gr_listRulesOf_49 rfl
    · refine k_ic_gt_f (pc := 7) (tgt := 49) w11 d_Gr_listRulesOf_7 rfl ?_
      refine k_aload_n (pc := 10) rfl z_m0 d_Gr_listRulesOf_10 ?_
      obtain ⟨v2, e_v2, hf⟩ := z_bd hf
      refine k_getR (pc := 11) d_Gr_listRulesOf_11 fd_Gr_11 rfl e_v2 ?_
      refine k_iload_n (pc := 14) rfl z_m2 d_Gr_listRulesOf_14 ?_
      obtain ⟨v3, e_v3, hf⟩ := z_bd hf
      refine k_rald24 (pc := 15) d_Gr_listRulesOf_15 e_v3 ?_
      obtain ⟨v4, e_v4, hf⟩ := z_bd hf
      refine k_getI (pc := 16) d_Gr_listRulesOf_16 fd_Gr_53 rfl e_v4 ?_
      refine k_iload_n (pc := 19) rfl z_m1 d_Gr_listRulesOf_19 ?_
      rcases z_it hf with ⟨w10, hf⟩ | ⟨w10, hf⟩
      · refine k_ic_ne_f (pc := 20) (tgt := 43) w10 d_Gr_listRulesOf_20 rfl ?_
        refine k_aload_n (pc := 23) rfl z_m0 d_Gr_listRulesOf_23 ?_
        obtain ⟨v5, e_v5, hf⟩ := z_bd hf
        refine k_getR (pc := 24) d_Gr_listRulesOf_24 fd_Gr_24 rfl e_v5 ?_
        refine k_aload_n (pc := 27) rfl z_m0 d_Gr_listRulesOf_27 ?_
        obtain ⟨v6, e_v6, hf⟩ := z_bd hf
        refine k_getI (pc := 28) d_Gr_listRulesOf_28 fd_Gr_113 rfl e_v6 ?_
        refine k_iload_n (pc := 31) rfl z_m2 d_Gr_listRulesOf_31 ?_
        obtain ⟨h7, e_h7, hf⟩ := z_bd hf
        refine k_iast (pc := 32) d_Gr_listRulesOf_32 e_h7 ?_
        refine k_aload_n (pc := 33) rfl z_m0 d_Gr_listRulesOf_33 ?_
        refine k_dup (pc := 34) (Or.inr rfl) d_Gr_listRulesOf_34 ?_
        obtain ⟨v8, e_v8, hf⟩ := z_bd hf
        refine k_getI (pc := 35) d_Gr_listRulesOf_35 fd_Gr_113 rfl e_v8 ?_
        refine k_iconst (pc := 38) (zi_lit rfl) d_Gr_listRulesOf_38 ?_
        refine k_iadd (pc := 39) d_Gr_listRulesOf_39 ?_
        obtain ⟨h9, e_h9, hf⟩ := z_bd hf
        refine k_putI (pc := 40) d_Gr_listRulesOf_40 fd_Gr_113 (fun q => by cases q) rfl e_h9 ?_
        exact b_Gr_listRulesOf_43 (f_Gr_listRulesOf_2 n) ih a0 a1 a2 h9 _ hf
      · refine k_ic_ne_t (pc := 20) (tgt := 43) w10 d_Gr_listRulesOf_20 rfl ?_
        exact b_Gr_listRulesOf_43 (f_Gr_listRulesOf_2 n) ih a0 a1 a2 h _ hf
theorem b_Gr_listRulesOf_0 (a0 : Nat) (a1 : Int) (h : zH) (r : zH) (hf : f_Gr_listRulesOf a0 a1 h = some r) : zK m_Gr_listRulesOf 0 [(0, (2, ((a0 : Nat) : Int))), (1, (0, a1))] [] h (none, r) := by
  unfold f_Gr_listRulesOf at hf
  refine k_iconst (pc := 0) (zi_lit rfl) d_Gr_listRulesOf_0 ?_
  refine k_istore_n (pc := 1) (L' := [(2, (0, 1)), (0, (2, ((a0 : Nat) : Int))), (1, (0, a1))]) rfl d_Gr_listRulesOf_1 (Nat.le_of_ble_eq_true rfl) rfl ?_
  refine k_sub [1, 2, 0] rfl ?_
  exact b_Gr_listRulesOf_2 100000 a0 a1 1 h _ hf
theorem t_Gr_listRulesOf {a0 : Nat} {a1 : Int} {h : zH} {r : zH} (hf : f_Gr_listRulesOf a0 a1 h = some r) : zMt m_Gr_listRulesOf [(2, ((a0 : Nat) : Int)), (0, a1)] h (none, r) := zMt.of (by decide) (Nat.le_of_ble_eq_true rfl) (b_Gr_listRulesOf_0 a0 a1 h r hf)
theorem b_Gr_listCandidates_29 (a0 : Nat) (a1 : Int) (h : zH) (r : zH) (hf : f_Gr_listCandidates_29 a0 a1 h = some r) : zK m_Gr_listCandidates 29 [(0, (2, ((a0 : Nat) : Int))), (1, (0, a1))] [] h (none, r) := by
  unfold f_Gr_listCandidates_29 at hf
  refine k_aload_n (pc := 29) rfl z_m0 d_Gr_listCandidates_29 ?_
  refine k_iload_n (pc := 30) rfl z_m1 d_Gr_listCandidates_30 ?_
  obtain ⟨n1, e_n1, hf⟩ := z_bd hf
  obtain ⟨h2, e_h2, hf⟩ := z_bd hf
  refine k_callVv (pc := 31) (as := [(0, a1)]) (rest := []) d_Gr_listCandidates_31 cw_Gr_listCandidates_135 rfl (Nat.le_of_ble_eq_true rfl) (z_ck_of e_n1) (t_Gr_listRulesOf e_h2) ?_
  refine k_aload_n (pc := 34) rfl z_m0 d_Gr_listCandidates_34 ?_
  obtain ⟨v3, e_v3, hf⟩ := z_bd hf
  refine k_getR (pc := 35) d_Gr_listCandidates_35 fd_Gr_11 rfl e_v3 ?_
  refine k_iload_n (pc := 38) rfl z_m1 d_Gr_listCandidates_38 ?_
  obtain ⟨v4, e_v4, hf⟩ := z_bd hf
  refine k_rald24 (pc := 39) d_Gr_listCandidates_39 e_v4 ?_
  obtain ⟨v5, e_v5, hf⟩ := z_bd hf
  refine k_getI (pc := 40) d_Gr_listCandidates_40 fd_Gr_138 rfl e_v5 ?_
  refine k_iconst (pc := 43) (zi_lit rfl) d_Gr_listCandidates_43 ?_
  rcases z_it hf with ⟨w11, hf⟩ | ⟨w11, hf⟩
  · refine k_ic_eq_t (pc := 44) (tgt := 60) w11 d_Gr_listCandidates_44 rfl ?_
    cases hf
    exact k_ret (pc := 60) d_Gr_listCandidates_60 rfl
  · refine k_ic_eq_f (pc := 44) (tgt := 60) w11 d_Gr_listCandidates_44 rfl ?_
    refine k_aload_n (pc := 47) rfl z_m0 d_Gr_listCandidates_47 ?_
    refine k_aload_n (pc := 48) rfl z_m0 d_Gr_listCandidates_48 ?_
    obtain ⟨v6, e_v6, hf⟩ := z_bd hf
    refine k_getR (pc := 49) d_Gr_listCandidates_49 fd_Gr_11 rfl e_v6 ?_
    refine k_iload_n (pc := 52) rfl z_m1 d_Gr_listCandidates_52 ?_
    obtain ⟨v7, e_v7, hf⟩ := z_bd hf
    refine k_rald24 (pc := 53) d_Gr_listCandidates_53 e_v7 ?_
    obtain ⟨v8, e_v8, hf⟩ := z_bd hf
    refine k_getI (pc := 54) d_Gr_listCandidates_54 fd_Gr_138 rfl e_v8 ?_
    obtain ⟨n9, e_n9, hf⟩ := z_bd hf
    obtain ⟨h10, e_h10, hf⟩ := z_bd hf
    refine k_callVv (pc := 57) (as := [(0, v8)]) (rest := []) d_Gr_listCandidates_57 cw_Gr_listCandidates_135 rfl (Nat.le_of_ble_eq_true rfl) (z_ck_of e_n9) (t_Gr_listRulesOf e_h10) ?_
    cases hf
    exact k_ret (pc := 60) d_Gr_listCandidates_60 rfl
theorem b_Gr_listCandidates_0 (a0 : Nat) (h : zH) (r : zH) (hf : f_Gr_listCandidates a0 h = some r) : zK m_Gr_listCandidates 0 [(0, (2, ((a0 : Nat) : Int)))] [] h (none, r) := by
  unfold f_Gr_listCandidates at hf
  refine k_aload_n (pc := 0) rfl z_m0 d_Gr_listCandidates_0 ?_
  obtain ⟨v12, e_v12, hf⟩ := z_bd hf
  refine k_getR (pc := 1) d_Gr_listCandidates_1 fd_Gr_20 rfl e_v12 ?_
  obtain ⟨n13, e_n13, hf⟩ := z_bd hf
  obtain ⟨q14, e_q14, hf⟩ := z_bd hf
  refine k_callVi (pc := 4) (as := []) (rest := []) d_Gr_listCandidates_4 cw_Gr_listCandidates_103 rfl (Nat.le_of_ble_eq_true rfl) (z_ck_of e_n13) (t_St_innermost e_q14) ?_
  refine k_istore_n (pc := 7) (L' := [(1, (0, q14.1)), (0, (2, ((a0 : Nat) : Int)))]) rfl d_Gr_listCandidates_7 (Nat.le_of_ble_eq_true rfl) rfl ?_
  refine k_aload_n (pc := 8) rfl z_m1 d_Gr_listCandidates_8 ?_
  refine k_iconst (pc := 9) (zi_lit rfl) d_Gr_listCandidates_9 ?_
  obtain ⟨h15, e_h15, hf⟩ := z_bd hf
  refine k_putI (pc := 10) d_Gr_listCandidates_10 fd_Gr_113 (fun q => by cases q) rfl e_h15 ?_
  refine k_iload_n (pc := 13) rfl z_m0 d_Gr_listCandidates_13 ?_
  rcases z_it hf with ⟨w19, hf⟩ | ⟨w19, hf⟩
  · refine k_if_eq_t (pc := 14) (tgt := 29) w19 d_Gr_listCandidates_14 rfl ?_
    refine k_sub [1, 0] rfl ?_
    exact b_Gr_listCandidates_29 a0 q14.1 h15 _ hf
  · refine k_if_eq_f (pc := 14) (tgt := 29) w19 d_Gr_listCandidates_14 rfl ?_
    refine k_aload_n (pc := 17) rfl z_m1 d_Gr_listCandidates_17 ?_
    obtain ⟨v16, e_v16, hf⟩ := z_bd hf
    refine k_getR (pc := 18) d_Gr_listCandidates_18 fd_Gr_24 rfl e_v16 ?_
    refine k_iconst (pc := 21) (zi_lit rfl) d_Gr_listCandidates_21 ?_
    refine k_iconst (pc := 22) (zi_lit rfl) d_Gr_listCandidates_22 ?_
    obtain ⟨h17, e_h17, hf⟩ := z_bd hf
    refine k_iast (pc := 23) d_Gr_listCandidates_23 e_h17 ?_
    refine k_aload_n (pc := 24) rfl z_m1 d_Gr_listCandidates_24 ?_
    refine k_iconst (pc := 25) (zi_lit rfl) d_Gr_listCandidates_25 ?_
    obtain ⟨h18, e_h18, hf⟩ := z_bd hf
    refine k_putI (pc := 26) d_Gr_listCandidates_26 fd_Gr_113 (fun q => by cases q) rfl e_h18 ?_
    refine k_sub [1, 0] rfl ?_
    exact b_Gr_listCandidates_29 a0 q14.1 h18 _ hf
theorem t_Gr_listCandidates {a0 : Nat} {h : zH} {r : zH} (hf : f_Gr_listCandidates a0 h = some r) : zMt m_Gr_listCandidates [(2, ((a0 : Nat) : Int))] h (none, r) := zMt.of (by decide) (Nat.le_of_ble_eq_true rfl) (b_Gr_listCandidates_0 a0 h r hf)
theorem b_Ar_fill_5 : ∀ (n : Nat) (a0 : Nat) (a1 : Int) (a2 : Int) (a3 : Int) (h : zH) (r : zH), f_Ar_fill_5 n a0 a1 a2 a3 h = some r → zK m_Ar_fill 5 [(0, (2, ((a0 : Nat) : Int))), (1, (0, a1)), (2, (0, a2)), (3, (0, a3))] [] h (none, r) := by
  intro n
  induction n with
  | zero =>
    intro a0 a1 a2 a3 h r hf
    cases hf
  | succ n ih =>
    intro a0 a1 a2 a3 h r hf
    unfold f_Ar_fill_5 at hf
    refine k_iload_n (pc := 5) rfl z_m2 d_Ar_fill_5 ?_
    refine k_iload_n (pc := 6) rfl z_m3 d_Ar_fill_6 ?_
    rcases z_it hf with ⟨w2, hf⟩ | ⟨w2, hf⟩
    · refine k_ic_ge_t (pc := 7) (tgt := 20) w2 d_Ar_fill_7 rfl ?_
      cases hf
      exact k_ret (pc := 20) d_Ar_fill_20 rfl
    · refine k_ic_ge_f (pc := 7) (tgt := 20) w2 d_Ar_fill_7 rfl ?_
      refine k_aload_n (pc := 10) rfl z_m0 d_Ar_fill_10 ?_
      refine k_iload_n (pc := 11) rfl z_m2 d_Ar_fill_11 ?_
      refine k_iload_n (pc := 12) rfl z_m1 d_Ar_fill_12 ?_
      obtain ⟨h1, e_h1, hf⟩ := z_bd hf
      refine k_iast (pc := 13) d_Ar_fill_13 e_h1 ?_
      refine k_iinc (pc := 14) (L' := [(2, (0, zw (a2 + 1))), (0, (2, ((a0 : Nat) : Int))), (1, (0, a1)), (3, (0, a3))]) z_m2 d_Ar_fill_14 (Nat.le_of_ble_eq_true rfl) rfl ?_
      refine k_goto (pc := 17) (tgt := 5) d_Ar_fill_17 rfl ?_
      refine k_sub [1, 2, 0, 3] rfl ?_
      exact ih a0 a1 (zw (a2 + 1)) a3 h1 _ hf
theorem b_Ar_fill_0 (a0 : Nat) (a1 : Int) (h : zH) (r : zH) (hf : f_Ar_fill a0 a1 h = some r) : zK m_Ar_fill 0 [(0, (2, ((a0 : Nat) : Int))), (1, (0, a1))] [] h (none, r) := by
  unfold f_Ar_fill at hf
  refine k_iconst (pc := 0) (zi_lit rfl) d_Ar_fill_0 ?_
  refine k_istore_n (pc := 1) (L' := [(2, (0, 0)), (0, (2, ((a0 : Nat) : Int))), (1, (0, a1))]) rfl d_Ar_fill_1 (Nat.le_of_ble_eq_true rfl) rfl ?_
  refine k_aload_n (pc := 2) rfl z_m1 d_Ar_fill_2 ?_
  obtain ⟨v3, e_v3, hf⟩ := z_bd hf
  refine k_alen (pc := 3) (by decide) d_Ar_fill_3 e_v3 ?_
  refine k_istore_n (pc := 4) (L' := [(3, (0, v3)), (2, (0, 0)), (0, (2, ((a0 : Nat) : Int))), (1, (0, a1))]) rfl d_Ar_fill_4 (Nat.le_of_ble_eq_true rfl) rfl ?_
  refine k_sub [2, 3, 1, 0] rfl ?_
  exact b_Ar_fill_5 100000 a0 a1 0 v3 h _ hf
theorem t_Ar_fill {a0 : Nat} {a1 : Int} {h : zH} {r : zH} (hf : f_Ar_fill a0 a1 h = some r) : zMt m_Ar_fill [(2, ((a0 : Nat) : Int)), (0, a1)] h (none, r) := zMt.of (by decide) (Nat.le_of_ble_eq_true rfl) (b_Ar_fill_0 a0 a1 h r hf)
theorem b_Se_leaveWaiting_0 (a0 : Nat) (a1 : Int) (a2 : Int) (h : zH) (r : zH) (hf : f_Se_leaveWaiting a0 a1 a2 h = some r) : zK m_Se_leaveWaiting 0 [(0, (2, ((a0 : Nat) : Int))), (1, (0, a1)), (2, (0, a2))] [] h (none, r) := by
  unfold f_Se_leaveWaiting at hf
  refine k_aload_n (pc := 0) rfl z_m0 d_Se_leaveWaiting_0 ?_
  obtain ⟨v1, e_v1, hf⟩ := z_bd hf
  refine k_getI (pc := 1) d_Se_leaveWaiting_1 fd_Se_54 rfl e_v1 ?_
  refine k_sipush (pc := 4) (zi_lit rfl) (by decide) d_Se_leaveWaiting_4 ?_
  rcases z_it hf with ⟨w10, hf⟩ | ⟨w10, hf⟩
  · refine k_ic_ge_t (pc := 7) (tgt := 40) w10 d_Se_leaveWaiting_7 rfl ?_
    cases hf
    exact k_ret (pc := 40) d_Se_leaveWaiting_40 rfl
  · refine k_ic_ge_f (pc := 7) (tgt := 40) w10 d_Se_leaveWaiting_7 rfl ?_
    refine k_aload_n (pc := 10) rfl z_m0 d_Se_leaveWaiting_10 ?_
    obtain ⟨v2, e_v2, hf⟩ := z_bd hf
    refine k_getR (pc := 11) d_Se_leaveWaiting_11 fd_Se_17 rfl e_v2 ?_
    refine k_aload_n (pc := 14) rfl z_m0 d_Se_leaveWaiting_14 ?_
    obtain ⟨v3, e_v3, hf⟩ := z_bd hf
    refine k_getI (pc := 15) d_Se_leaveWaiting_15 fd_Se_54 rfl e_v3 ?_
    refine k_iload_n (pc := 18) rfl z_m1 d_Se_leaveWaiting_18 ?_
    obtain ⟨h4, e_h4, hf⟩ := z_bd hf
    refine k_iast (pc := 19) d_Se_leaveWaiting_19 e_h4 ?_
    refine k_aload_n (pc := 20) rfl z_m0 d_Se_leaveWaiting_20 ?_
    obtain ⟨v5, e_v5, hf⟩ := z_bd hf
    refine k_getR (pc := 21) d_Se_leaveWaiting_21 fd_Se_20 rfl e_v5 ?_
    refine k_aload_n (pc := 24) rfl z_m0 d_Se_leaveWaiting_24 ?_
    obtain ⟨v6, e_v6, hf⟩ := z_bd hf
    refine k_getI (pc := 25) d_Se_leaveWaiting_25 fd_Se_54 rfl e_v6 ?_
    refine k_iload_n (pc := 28) rfl z_m2 d_Se_leaveWaiting_28 ?_
    obtain ⟨h7, e_h7, hf⟩ := z_bd hf
    refine k_iast (pc := 29) d_Se_leaveWaiting_29 e_h7 ?_
    refine k_aload_n (pc := 30) rfl z_m0 d_Se_leaveWaiting_30 ?_
    refine k_dup (pc := 31) (Or.inr rfl) d_Se_leaveWaiting_31 ?_
    obtain ⟨v8, e_v8, hf⟩ := z_bd hf
    refine k_getI (pc := 32) d_Se_leaveWaiting_32 fd_Se_54 rfl e_v8 ?_
    refine k_iconst (pc := 35) (zi_lit rfl) d_Se_leaveWaiting_35 ?_
    refine k_iadd (pc := 36) d_Se_leaveWaiting_36 ?_
    obtain ⟨h9, e_h9, hf⟩ := z_bd hf
    refine k_putI (pc := 37) d_Se_leaveWaiting_37 fd_Se_54 (fun q => by cases q) rfl e_h9 ?_
    cases hf
    exact k_ret (pc := 40) d_Se_leaveWaiting_40 rfl
theorem t_Se_leaveWaiting {a0 : Nat} {a1 : Int} {a2 : Int} {h : zH} {r : zH} (hf : f_Se_leaveWaiting a0 a1 a2 h = some r) : zMt m_Se_leaveWaiting [(2, ((a0 : Nat) : Int)), (0, a1), (0, a2)] h (none, r) := zMt.of (by decide) (Nat.le_of_ble_eq_true rfl) (b_Se_leaveWaiting_0 a0 a1 a2 h r hf)
theorem b_St_textLength_0 (a0 : Nat) (a1 : Int) (a2 : Int) (h : zH) (r : Int × zH) (hf : f_St_textLength a0 a1 a2 h = some r) : zK m_St_textLength 0 [(0, (2, ((a0 : Nat) : Int))), (1, (0, a1)), (2, (0, a2))] [] h (some (0, r.1), r.2) := by
  unfold f_St_textLength at hf
  refine k_aload_n (pc := 0) rfl z_m0 d_St_textLength_0 ?_
  obtain ⟨v1, e_v1, hf⟩ := z_bd hf
  refine k_getR (pc := 1) d_St_textLength_1 fd_St_15 rfl e_v1 ?_
  refine k_iload_n (pc := 4) rfl z_m1 d_St_textLength_4 ?_
  refine k_iconst (pc := 5) (zi_lit rfl) d_St_textLength_5 ?_
  refine k_imul (pc := 6) d_St_textLength_6 ?_
  refine k_iload_n (pc := 7) rfl z_m2 d_St_textLength_7 ?_
  refine k_iadd (pc := 8) d_St_textLength_8 ?_
  refine k_iconst (pc := 9) (zi_lit rfl) d_St_textLength_9 ?_
  refine k_isub (pc := 10) d_St_textLength_10 ?_
  obtain ⟨v2, e_v2, hf⟩ := z_bd hf
  refine k_iald (pc := 11) d_St_textLength_11 e_v2 ?_
  cases hf
  exact k_iret (pc := 12) d_St_textLength_12 rfl
theorem t_St_textLength {a0 : Nat} {a1 : Int} {a2 : Int} {h : zH} {r : Int × zH} (hf : f_St_textLength a0 a1 a2 h = some r) : zMt m_St_textLength [(2, ((a0 : Nat) : Int)), (0, a1), (0, a2)] h (some (0, r.1), r.2) := zMt.of (by decide) (Nat.le_of_ble_eq_true rfl) (b_St_textLength_0 a0 a1 a2 h r hf)
theorem b_Se_makeStep_37 (a0 : Nat) (s0 : Nat) (s1 : Int) (s2 : Int) (h : zH) (r : Int × zH) (hf : f_Se_makeStep_37 a0 s0 s1 s2 h = some r) : zK m_Se_makeStep 37 [(0, (2, ((a0 : Nat) : Int)))] [(0, s2), (0, s1), (2, ((s0 : Nat) : Int))] h (some (0, r.1), r.2) := by
  unfold f_Se_makeStep_37 at hf
  refine k_iadd (pc := 37) d_Se_makeStep_37 ?_
  obtain ⟨h1, e_h1, hf⟩ := z_bd hf
  refine k_putI (pc := 38) d_Se_makeStep_38 fd_Se_33 (fun q => by cases q) rfl e_h1 ?_
  refine k_aload_n (pc := 41) rfl z_m0 d_Se_makeStep_41 ?_
  obtain ⟨v2, e_v2, hf⟩ := z_bd hf
  refine k_getI (pc := 42) d_Se_makeStep_42 fd_Se_36 rfl e_v2 ?_
  rcases z_it hf with ⟨w3, hf⟩ | ⟨w3, hf⟩
  · refine k_if_ne_f (pc := 45) (tgt := 52) w3 d_Se_makeStep_45 rfl ?_
    refine k_iconst (pc := 48) (zi_lit rfl) d_Se_makeStep_48 ?_
    refine k_goto (pc := 49) (tgt := 53) d_Se_makeStep_49 rfl ?_
    cases hf
    exact k_zret (pc := 53) d_Se_makeStep_53 rfl (Or.inr rfl)
  · refine k_if_ne_t (pc := 45) (tgt := 52) w3 d_Se_makeStep_45 rfl ?_
    refine k_iconst (pc := 52) (zi_lit rfl) d_Se_makeStep_52 ?_
    cases hf
    exact k_zret (pc := 53) d_Se_makeStep_53 rfl (Or.inl rfl)
theorem b_Se_makeStep_17 (a0 : Nat) (s0 : Nat) (s1 : Int) (h : zH) (r : Int × zH) (hf : f_Se_makeStep_17 a0 s0 s1 h = some r) : zK m_Se_makeStep 17 [(0, (2, ((a0 : Nat) : Int)))] [(0, s1), (2, ((s0 : Nat) : Int))] h (some (0, r.1), r.2) := by
  unfold f_Se_makeStep_17 at hf
  obtain ⟨h4, e_h4, hf⟩ := z_bd hf
  refine k_putZ (pc := 17) d_Se_makeStep_17 fd_Se_36 (fun q => by cases q) rfl e_h4 ?_
  refine k_aload_n (pc := 20) rfl z_m0 d_Se_makeStep_20 ?_
  refine k_dup (pc := 21) (Or.inr rfl) d_Se_makeStep_21 ?_
  obtain ⟨v5, e_v5, hf⟩ := z_bd hf
  refine k_getI (pc := 22) d_Se_makeStep_22 fd_Se_33 rfl e_v5 ?_
  refine k_aload_n (pc := 25) rfl z_m0 d_Se_makeStep_25 ?_
  obtain ⟨v6, e_v6, hf⟩ := z_bd hf
  refine k_getI (pc := 26) d_Se_makeStep_26 fd_Se_36 rfl e_v6 ?_
  rcases z_it hf with ⟨w7, hf⟩ | ⟨w7, hf⟩
  · refine k_if_eq_t (pc := 29) (tgt := 36) w7 d_Se_makeStep_29 rfl ?_
    refine k_iconst (pc := 36) (zi_lit rfl) d_Se_makeStep_36 ?_
    exact b_Se_makeStep_37 a0 a0 v5 1 h4 _ hf
  · refine k_if_eq_f (pc := 29) (tgt := 36) w7 d_Se_makeStep_29 rfl ?_
    refine k_iconst (pc := 32) (zi_lit rfl) d_Se_makeStep_32 ?_
    refine k_goto (pc := 33) (tgt := 37) d_Se_makeStep_33 rfl ?_
    exact b_Se_makeStep_37 a0 a0 v5 0 h4 _ hf
theorem b_Se_makeStep_0 (a0 : Nat) (h : zH) (r : Int × zH) (hf : f_Se_makeStep a0 h = some r) : zK m_Se_makeStep 0 [(0, (2, ((a0 : Nat) : Int)))] [] h (some (0, r.1), r.2) := by
  unfold f_Se_makeStep at hf
  refine k_aload_n (pc := 0) rfl z_m0 d_Se_makeStep_0 ?_
  refine k_aload_n (pc := 1) rfl z_m0 d_Se_makeStep_1 ?_
  obtain ⟨v8, e_v8, hf⟩ := z_bd hf
  refine k_getI (pc := 2) d_Se_makeStep_2 fd_Se_33 rfl e_v8 ?_
  refine k_aload_n (pc := 5) rfl z_m0 d_Se_makeStep_5 ?_
  obtain ⟨v9, e_v9, hf⟩ := z_bd hf
  refine k_getI (pc := 6) d_Se_makeStep_6 fd_Se_23 rfl e_v9 ?_
  rcases z_it hf with ⟨w10, hf⟩ | ⟨w10, hf⟩
  · refine k_ic_ne_f (pc := 9) (tgt := 16) w10 d_Se_makeStep_9 rfl ?_
    refine k_iconst (pc := 12) (zi_lit rfl) d_Se_makeStep_12 ?_
    refine k_goto (pc := 13) (tgt := 17) d_Se_makeStep_13 rfl ?_
    exact b_Se_makeStep_17 a0 a0 1 h _ hf
  · refine k_ic_ne_t (pc := 9) (tgt := 16) w10 d_Se_makeStep_9 rfl ?_
    refine k_iconst (pc := 16) (zi_lit rfl) d_Se_makeStep_16 ?_
    exact b_Se_makeStep_17 a0 a0 0 h _ hf
theorem t_Se_makeStep {a0 : Nat} {h : zH} {r : Int × zH} (hf : f_Se_makeStep a0 h = some r) : zMt m_Se_makeStep [(2, ((a0 : Nat) : Int))] h (some (0, r.1), r.2) := zMt.of (by decide) (Nat.le_of_ble_eq_true rfl) (b_Se_makeStep_0 a0 h r hf)
theorem b_St_textCharacter_0 (a0 : Nat) (a1 : Int) (a2 : Int) (a3 : Int) (h : zH) (r : Int × zH) (hf : f_St_textCharacter a0 a1 a2 a3 h = some r) : zK m_St_textCharacter 0 [(0, (2, ((a0 : Nat) : Int))), (1, (0, a1)), (2, (0, a2)), (3, (0, a3))] [] h (some (0, r.1), r.2) := by
  unfold f_St_textCharacter at hf
  refine k_aload_n (pc := 0) rfl z_m0 d_St_textCharacter_0 ?_
  obtain ⟨v1, e_v1, hf⟩ := z_bd hf
  refine k_getR (pc := 1) d_St_textCharacter_1 fd_St_18 rfl e_v1 ?_
  refine k_iload_n (pc := 4) rfl z_m1 d_St_textCharacter_4 ?_
  refine k_iconst (pc := 5) (zi_lit rfl) d_St_textCharacter_5 ?_
  refine k_imul (pc := 6) d_St_textCharacter_6 ?_
  refine k_iload_n (pc := 7) rfl z_m2 d_St_textCharacter_7 ?_
  refine k_iadd (pc := 8) d_St_textCharacter_8 ?_
  refine k_iconst (pc := 9) (zi_lit rfl) d_St_textCharacter_9 ?_
  refine k_isub (pc := 10) d_St_textCharacter_10 ?_
  refine k_bipush (pc := 11) (zi_lit rfl) (by decide) d_St_textCharacter_11 ?_
  refine k_imul (pc := 13) d_St_textCharacter_13 ?_
  refine k_iload_n (pc := 14) rfl z_m3 d_St_textCharacter_14 ?_
  refine k_iadd (pc := 15) d_St_textCharacter_15 ?_
  obtain ⟨v2, e_v2, hf⟩ := z_bd hf
  refine k_cald (pc := 16) d_St_textCharacter_16 e_v2 ?_
  obtain ⟨b, eb, hf⟩ := z_bd hf
  have hb := z_bc_of eb
  rw [hb.1] at hf
  cases hf
  exact k_cret (pc := 17) d_St_textCharacter_17 rfl hb.2
theorem t_St_textCharacter {a0 : Nat} {a1 : Int} {a2 : Int} {a3 : Int} {h : zH} {r : Int × zH} (hf : f_St_textCharacter a0 a1 a2 a3 h = some r) : zMt m_St_textCharacter [(2, ((a0 : Nat) : Int)), (0, a1), (0, a2), (0, a3)] h (some (0, r.1), r.2) := zMt.of (by decide) (Nat.le_of_ble_eq_true rfl) (b_St_textCharacter_0 a0 a1 a2 a3 h r hf)
theorem b_Se_fitsText_88 (c32 : Nat → Nat → Nat → Int → Int → Int → Int → Int → zH → Option (Int × zH)) (k32 : ∀ (x0 : Nat) (x1 : Nat) (x2 : Nat) (x3 : Int) (x4 : Int) (x5 : Int) (x6 : Int) (x7 : Int) (g : zH) (r : Int × zH), c32 x0 x1 x2 x3 x4 x5 x6 x7 g = some r → zK m_Se_fitsText 32 [(0, (2, ((x0 : Nat) : Int))), (1, (2, ((x1 : Nat) : Int))), (2, (2, ((x2 : Nat) : Int))), (3, (0, x3)), (4, (0, x4)), (5, (0, x5)), (6, (0, x6)), (7, (0, x7))] [] g (some (0, r.1), r.2)) (a0 : Nat) (a1 : Nat) (a2 : Nat) (a3 : Int) (a4 : Int) (a5 : Int) (a7 : Int) (s0 : Int) (h : zH) (r : Int × zH) (hf : f_Se_fitsText_88 c32 a0 a1 a2 a3 a4 a5 a7 s0 h = some r) : zK m_Se_fitsText 88 [(0, (2, ((a0 : Nat) : Int))), (1, (2, ((a1 : Nat) : Int))), (2, (2, ((a2 : Nat) : Int))), (3, (0, a3)), (4, (0, a4)), (5, (0, a5)), (7, (0, a7))] [(0, s0)] h (some (0, r.1), r.2) := by
  unfold f_Se_fitsText_88 at hf
  refine k_istore (pc := 88) (L' := [(6, (0, s0)), (0, (2, ((a0 : Nat) : Int))), (1, (2, ((a1 : Nat) : Int))), (2, (2, ((a2 : Nat) : Int))), (3, (0, a3)), (4, (0, a4)), (5, (0, a5)), (7, (0, a7))]) d_Se_fitsText_88 (Nat.le_of_ble_eq_true rfl) rfl ?_
  refine k_aload_n (pc := 90) rfl z_m1 d_Se_fitsText_90 ?_
  refine k_dup (pc := 91) (Or.inr rfl) d_Se_fitsText_91 ?_
  obtain ⟨v1, e_v1, hf⟩ := z_bd hf
  refine k_getI (pc := 92) d_Se_fitsText_92 fd_Se_60 rfl e_v1 ?_
  refine k_iconst (pc := 95) (zi_lit rfl) d_Se_fitsText_95 ?_
  refine k_iadd (pc := 96) d_Se_fitsText_96 ?_
  obtain ⟨h2, e_h2, hf⟩ := z_bd hf
  refine k_putI (pc := 97) d_Se_fitsText_97 fd_Se_60 (fun q => by cases q) rfl e_h2 ?_
  refine k_iinc (pc := 100) (L' := [(7, (0, zw (a7 + 1))), (6, (0, s0)), (0, (2, ((a0 : Nat) : Int))), (1, (2, ((a1 : Nat) : Int))), (2, (2, ((a2 : Nat) : Int))), (3, (0, a3)), (4, (0, a4)), (5, (0, a5))]) z_m7 d_Se_fitsText_100 (Nat.le_of_ble_eq_true rfl) rfl ?_
  refine k_goto (pc := 103) (tgt := 32) d_Se_fitsText_103 rfl ?_
  refine k_sub [2, 3, 4, 5, 6, 7, 1, 0] rfl ?_
  exact k32 a0 a1 a2 a3 a4 a5 s0 (zw (a7 + 1)) h2 _ hf
theorem b_Se_fitsText_87 (c32 : Nat → Nat → Nat → Int → Int → Int → Int → Int → zH → Option (Int × zH)) (k32 : ∀ (x0 : Nat) (x1 : Nat) (x2 : Nat) (x3 : Int) (x4 : Int) (x5 : Int) (x6 : Int) (x7 : Int) (g : zH) (r : Int × zH), c32 x0 x1 x2 x3 x4 x5 x6 x7 g = some r → zK m_Se_fitsText 32 [(0, (2, ((x0 : Nat) : Int))), (1, (2, ((x1 : Nat) : Int))), (2, (2, ((x2 : Nat) : Int))), (3, (0, x3)), (4, (0, x4)), (5, (0, x5)), (6, (0, x6)), (7, (0, x7))] [] g (some (0, r.1), r.2)) (a0 : Nat) (a1 : Nat) (a2 : Nat) (a3 : Int) (a4 : Int) (a5 : Int) (a7 : Int) (h : zH) (r : Int × zH) (hf : f_Se_fitsText_87 c32 a0 a1 a2 a3 a4 a5 a7 h = some r) : zK m_Se_fitsText 87 [(0, (2, ((a0 : Nat) : Int))), (1, (2, ((a1 : Nat) : Int))), (2, (2, ((a2 : Nat) : Int))), (3, (0, a3)), (4, (0, a4)), (5, (0, a5)), (7, (0, a7))] [] h (some (0, r.1), r.2) := by
  unfold f_Se_fitsText_87 at hf
  refine k_iconst (pc := 87) (zi_lit rfl) d_Se_fitsText_87 ?_
  exact b_Se_fitsText_88 c32 k32 a0 a1 a2 a3 a4 a5 a7 0 h _ hf
theorem b_Se_fitsText_32 : ∀ (n : Nat) (a0 : Nat) (a1 : Nat) (a2 : Nat) (a3 : Int) (a4 : Int) (a5 : Int) (a6 : Int) (a7 : Int) (h : zH) (r : Int × zH), f_Se_fitsText_32 n a0 a1 a2 a3 a4 a5 a6 a7 h = some r → zK m_Se_fitsText 32 [(0, (2, ((a0 : Nat) : Int))), (1, (2, ((a1 : Nat) : Int))), (2, (2, ((a2 : Nat) : Int))), (3, (0, a3)), (4, (0, a4)), (5, (0, a5)), (6, (0, a6)), (7, (0, a7))] [] h (some (0, r.1), r.2) := by
  intro n
  induction n with
  | zero =>
    intro a0 a1 a2 a3 a4 a5 a6 a7 h r hf
    cases hf
  | succ n ih =>
    intro a0 a1 a2 a3 a4 a5 a6 a7 h r hf
    unfold f_Se_fitsText_32 at hf
    refine k_iload (pc := 32) z_m7 d_Se_fitsText_32 ?_
    refine k_iload (pc := 34) z_m5 d_Se_fitsText_34 ?_
    rcases z_it hf with ⟨w16, hf⟩ | ⟨w16, hf⟩
    · refine k_ic_ge_t (pc := 36) (tgt := 106) w16 d_Se_fitsText_36 rfl ?_
      refine k_iload (pc := 106) z_m6 d_Se_fitsText_106 ?_
      obtain ⟨b, eb, hf⟩ := z_bd hf
      have hb := z_bo_of eb
      rw [hb.1] at hf
      cases hf
      exact k_zret (pc := 108) d_Se_fitsText_108 rfl hb.2
    · refine k_ic_ge_f (pc := 36) (tgt := 106) w16 d_Se_fitsText_36 rfl ?_
      refine k_iload (pc := 39) z_m6 d_Se_fitsText_39 ?_
      rcases z_it hf with ⟨w15, hf⟩ | ⟨w15, hf⟩
      · refine k_if_eq_t (pc := 41) (tgt := 106) w15 d_Se_fitsText_41 rfl ?_
        refine k_iload (pc := 106) z_m6 d_Se_fitsText_106 ?_
        obtain ⟨b, eb, hf⟩ := z_bd hf
        have hb := z_bo_of eb
        rw [hb.1] at hf
        cases hf
        exact k_zret (pc := 108) d_Se_fitsText_108 rfl hb.2
      · refine k_if_eq_f (pc := 41) (tgt := 106) w15 d_Se_fitsText_41 rfl ?_
        refine k_aload_n (pc := 44) rfl z_m0 d_Se_fitsText_44 ?_
        obtain ⟨n3, e_n3, hf⟩ := z_bd hf
        obtain ⟨q4, e_q4, hf⟩ := z_bd hf
        refine k_callVi (pc := 45) (as := []) (rest := []) d_Se_fitsText_45 cw_Se_fitsText_84 rfl (Nat.le_of_ble_eq_true rfl) (z_ck_of e_n3) (t_Se_makeStep e_q4) ?_
        rcases z_it hf with ⟨w14, hf⟩ | ⟨w14, hf⟩
        · refine k_if_eq_t (pc := 48) (tgt := 87) w14 d_Se_fitsText_48 rfl ?_
          refine k_sub [0, 1, 2, 3, 4, 5, 7] rfl ?_
          exact b_Se_fitsText_87 (f_Se_fitsText_32 n) ih a0 a1 a2 a3 a4 a5 a7 q4.2 _ hf
        · refine k_if_eq_f (pc := 48) (tgt := 87) w14 d_Se_fitsText_48 rfl ?_
          refine k_aload_n (pc := 51) rfl z_m0 d_Se_fitsText_51 ?_
          obtain ⟨v5, e_v5, hf⟩ := z_bd hf
          refine k_getI (pc := 52) d_Se_fitsText_52 fd_Se_60 rfl e_v5 ?_
          refine k_aload_n (pc := 55) rfl z_m1 d_Se_fitsText_55 ?_
          obtain ⟨v6, e_v6, hf⟩ := z_bd hf
          refine k_getI (pc := 56) d_Se_fitsText_56 fd_Se_43 rfl e_v6 ?_
          rcases z_it hf with ⟨w13, hf⟩ | ⟨w13, hf⟩
          · refine k_ic_ge_t (pc := 59) (tgt := 87) w13 d_Se_fitsText_59 rfl ?_
            refine k_sub [0, 1, 2, 3, 4, 5, 7] rfl ?_
            exact b_Se_fitsText_87 (f_Se_fitsText_32 n) ih a0 a1 a2 a3 a4 a5 a7 q4.2 _ hf
          · refine k_ic_ge_f (pc := 59) (tgt := 87) w13 d_Se_fitsText_59 rfl ?_
            refine k_aload_n (pc := 62) rfl z_m1 d_Se_fitsText_62 ?_
            obtain ⟨v7, e_v7, hf⟩ := z_bd hf
            refine k_getR (pc := 63) d_Se_fitsText_63 fd_Se_95 rfl e_v7 ?_
            refine k_aload_n (pc := 66) rfl z_m0 d_Se_fitsText_66 ?_
            obtain ⟨v8, e_v8, hf⟩ := z_bd hf
            refine k_getI (pc := 67) d_Se_fitsText_67 fd_Se_60 rfl e_v8 ?_
            obtain ⟨v9, e_v9, hf⟩ := z_bd hf
            refine k_cald (pc := 70) d_Se_fitsText_70 e_v9 ?_
            refine k_aload_n (pc := 71) rfl z_m2 d_Se_fitsText_71 ?_
            refine k_iload (pc := 72) z_m4 d_Se_fitsText_72 ?_
            refine k_iload_n (pc := 74) rfl z_m3 d_Se_fitsText_74 ?_
            refine k_iload (pc := 75) z_m7 d_Se_fitsText_75 ?_
            obtain ⟨n10, e_n10, hf⟩ := z_bd hf
            obtain ⟨q11, e_q11, hf⟩ := z_bd hf
            refine k_callVi (pc := 77) (as := [(0, a4), (0, a3), (0, a7)]) (rest := [(0, v9)]) d_Se_fitsText_77 cw_Se_fitsText_112 rfl (Nat.le_of_ble_eq_true rfl) (z_ck_of e_n10) (t_St_textCharacter e_q11) ?_
            rcases z_it hf with ⟨w12, hf⟩ | ⟨w12, hf⟩
            · refine k_ic_ne_f (pc := 80) (tgt := 87) w12 d_Se_fitsText_80 rfl ?_
              refine k_iconst (pc := 83) (zi_lit rfl) d_Se_fitsText_83 ?_
              refine k_goto (pc := 84) (tgt := 88) d_Se_fitsText_84 rfl ?_
              refine k_sub [0, 1, 2, 3, 4, 5, 7] rfl ?_
              exact b_Se_fitsText_88 (f_Se_fitsText_32 n) ih a0 a1 a2 a3 a4 a5 a7 1 q11.2 _ hf
            · refine k_ic_ne_t (pc := 80) (tgt := 87) w12 d_Se_fitsText_80 rfl ?_
              refine k_sub [0, 1, 2, 3, 4, 5, 7] rfl ?_
              exact b_Se_fitsText_87 (f_Se_fitsText_32 n) ih a0 a1 a2 a3 a4 a5 a7 q11.2 _ hf
theorem b_Se_fitsText_24 (a0 : Nat) (a1 : Nat) (a2 : Nat) (a3 : Int) (a4 : Int) (s0 : Int) (h : zH) (r : Int × zH) (hf : f_Se_fitsText_24 a0 a1 a2 a3 a4 s0 h = some r) : zK m_Se_fitsText 24 [(0, (2, ((a0 : Nat) : Int))), (1, (2, ((a1 : Nat) : Int))), (2, (2, ((a2 : Nat) : Int))), (3, (0, a3)), (4, (0, a4))] [(0, s0)] h (some (0, r.1), r.2) := by
  unfold f_Se_fitsText_24 at hf
  refine k_istore (pc := 24) (L' := [(5, (0, s0)), (0, (2, ((a0 : Nat) : Int))), (1, (2, ((a1 : Nat) : Int))), (2, (2, ((a2 : Nat) : Int))), (3, (0, a3)), (4, (0, a4))]) d_Se_fitsText_24 (Nat.le_of_ble_eq_true rfl) rfl ?_
  refine k_iconst (pc := 26) (zi_lit rfl) d_Se_fitsText_26 ?_
  refine k_istore (pc := 27) (L' := [(6, (0, 1)), (5, (0, s0)), (0, (2, ((a0 : Nat) : Int))), (1, (2, ((a1 : Nat) : Int))), (2, (2, ((a2 : Nat) : Int))), (3, (0, a3)), (4, (0, a4))]) d_Se_fitsText_27 (Nat.le_of_ble_eq_true rfl) rfl ?_
  refine k_iconst (pc := 29) (zi_lit rfl) d_Se_fitsText_29 ?_
  refine k_istore (pc := 30) (L' := [(7, (0, 0)), (6, (0, 1)), (5, (0, s0)), (0, (2, ((a0 : Nat) : Int))), (1, (2, ((a1 : Nat) : Int))), (2, (2, ((a2 : Nat) : Int))), (3, (0, a3)), (4, (0, a4))]) d_Se_fitsText_30 (Nat.le_of_ble_eq_true rfl) rfl ?_
  refine k_sub [3, 4, 5, 6, 7, 2, 1, 0] rfl ?_
  exact b_Se_fitsText_32 100000 a0 a1 a2 a3 a4 s0 1 0 h _ hf
theorem b_Se_fitsText_0 (a0 : Nat) (a1 : Nat) (a2 : Nat) (a3 : Int) (h : zH) (r : Int × zH) (hf : f_Se_fitsText a0 a1 a2 a3 h = some r) : zK m_Se_fitsText 0 [(0, (2, ((a0 : Nat) : Int))), (1, (2, ((a1 : Nat) : Int))), (2, (2, ((a2 : Nat) : Int))), (3, (0, a3))] [] h (some (0, r.1), r.2) := by
  unfold f_Se_fitsText at hf
  refine k_aload_n (pc := 0) rfl z_m2 d_Se_fitsText_0 ?_
  obtain ⟨v17, e_v17, hf⟩ := z_bd hf
  refine k_getI (pc := 1) d_Se_fitsText_1 fd_Se_103 rfl e_v17 ?_
  refine k_iconst (pc := 4) (zi_lit rfl) d_Se_fitsText_4 ?_
  refine k_isub (pc := 5) d_Se_fitsText_5 ?_
  refine k_istore (pc := 6) (L' := [(4, (0, zw (v17 - 1))), (0, (2, ((a0 : Nat) : Int))), (1, (2, ((a1 : Nat) : Int))), (2, (2, ((a2 : Nat) : Int))), (3, (0, a3))]) d_Se_fitsText_6 (Nat.le_of_ble_eq_true rfl) rfl ?_
  refine k_iload (pc := 8) z_m0 d_Se_fitsText_8 ?_
  rcases z_it hf with ⟨w20, hf⟩ | ⟨w20, hf⟩
  · refine k_if_ge_t (pc := 10) (tgt := 17) w20 d_Se_fitsText_10 rfl ?_
    refine k_aload_n (pc := 17) rfl z_m3 d_Se_fitsText_17 ?_
    refine k_iload (pc := 18) z_m0 d_Se_fitsText_18 ?_
    refine k_iload_n (pc := 20) rfl z_m4 d_Se_fitsText_20 ?_
    obtain ⟨n18, e_n18, hf⟩ := z_bd hf
    obtain ⟨q19, e_q19, hf⟩ := z_bd hf
    refine k_callVi (pc := 21) (as := [(0, zw (v17 - 1)), (0, a3)]) (rest := []) d_Se_fitsText_21 cw_Se_fitsText_108 rfl (Nat.le_of_ble_eq_true rfl) (z_ck_of e_n18) (t_St_textLength e_q19) ?_
    refine k_sub [1, 2, 3, 4, 0] rfl ?_
    exact b_Se_fitsText_24 a0 a1 a2 a3 (zw (v17 - 1)) q19.1 q19.2 _ hf
  · refine k_if_ge_f (pc := 10) (tgt := 17) w20 d_Se_fitsText_10 rfl ?_
    refine k_iconst (pc := 13) (zi_lit rfl) d_Se_fitsText_13 ?_
    refine k_goto (pc := 14) (tgt := 24) d_Se_fitsText_14 rfl ?_
    refine k_sub [1, 2, 3, 4, 0] rfl ?_
    exact b_Se_fitsText_24 a0 a1 a2 a3 (zw (v17 - 1)) 0 h _ hf
theorem t_Se_fitsText {a0 : Nat} {a1 : Nat} {a2 : Nat} {a3 : Int} {h : zH} {r : Int × zH} (hf : f_Se_fitsText a0 a1 a2 a3 h = some r) : zMt m_Se_fitsText [(2, ((a0 : Nat) : Int)), (2, ((a1 : Nat) : Int)), (2, ((a2 : Nat) : Int)), (0, a3)] h (some (0, r.1), r.2) := zMt.of (by decide) (Nat.le_of_ble_eq_true rfl) (b_Se_fitsText_0 a0 a1 a2 a3 h r hf)
theorem b_Pt_isInSet_26 (a3 : Int) (s0 : Int) (h : zH) (r : Int × zH) (hf : f_Pt_isInSet_26 a3 s0 h = some r) : zK m_Pt_isInSet 26 [(3, (0, a3))] [(1, s0)] h (some (0, r.1), r.2) := by
  unfold f_Pt_isInSet_26 at hf
  refine k_lstore (pc := 26) (L' := [(4, (1, s0)), (3, (0, a3))]) d_Pt_isInSet_26 (Nat.le_of_ble_eq_true rfl) rfl ?_
  refine k_lload (pc := 28) z_m0 d_Pt_isInSet_28 ?_
  refine k_iload_n (pc := 30) rfl z_m1 d_Pt_isInSet_30 ?_
  refine k_bipush (pc := 31) (zi_lit rfl) (by decide) d_Pt_isInSet_31 ?_
  refine k_iand (pc := 33) d_Pt_isInSet_33 ?_
  refine k_lushr (pc := 34) d_Pt_isInSet_34 ?_
  refine k_lconst (pc := 35) (x := 1) (zi_lit64 rfl) (by decide) d_Pt_isInSet_35 ?_
  refine k_land (pc := 36) d_Pt_isInSet_36 ?_
  refine k_lconst (pc := 37) (x := 0) (zi_lit64 rfl) (by decide) d_Pt_isInSet_37 ?_
  refine k_lcmp (pc := 38) d_Pt_isInSet_38 ?_
  rcases z_it hf with ⟨w1, hf⟩ | ⟨w1, hf⟩
  · refine k_if_eq_t (pc := 39) (tgt := 46) w1 d_Pt_isInSet_39 rfl ?_
    refine k_iconst (pc := 46) (zi_lit rfl) d_Pt_isInSet_46 ?_
    cases hf
    exact k_zret (pc := 47) d_Pt_isInSet_47 rfl (Or.inl rfl)
  · refine k_if_eq_f (pc := 39) (tgt := 46) w1 d_Pt_isInSet_39 rfl ?_
    refine k_iconst (pc := 42) (zi_lit rfl) d_Pt_isInSet_42 ?_
    refine k_goto (pc := 43) (tgt := 47) d_Pt_isInSet_43 rfl ?_
    cases hf
    exact k_zret (pc := 47) d_Pt_isInSet_47 rfl (Or.inr rfl)
theorem b_Pt_isInSet_0 (a0 : Nat) (a1 : Int) (a2 : Int) (h : zH) (r : Int × zH) (hf : f_Pt_isInSet a0 a1 a2 h = some r) : zK m_Pt_isInSet 0 [(0, (2, ((a0 : Nat) : Int))), (1, (0, a1)), (2, (0, a2))] [] h (some (0, r.1), r.2) := by
  unfold f_Pt_isInSet at hf
  refine k_iload_n (pc := 0) rfl z_m2 d_Pt_isInSet_0 ?_
  refine k_bipush (pc := 1) (zi_lit rfl) (by decide) d_Pt_isInSet_1 ?_
  refine k_isub (pc := 3) d_Pt_isInSet_3 ?_
  refine k_istore_n (pc := 4) (L' := [(3, (0, zw (a2 - 32))), (0, (2, ((a0 : Nat) : Int))), (1, (0, a1)), (2, (0, a2))]) rfl d_Pt_isInSet_4 (Nat.le_of_ble_eq_true rfl) rfl ?_
  refine k_iload_n (pc := 5) rfl z_m0 d_Pt_isInSet_5 ?_
  refine k_bipush (pc := 6) (zi_lit rfl) (by decide) d_Pt_isInSet_6 ?_
  rcases z_it hf with ⟨w6, hf⟩ | ⟨w6, hf⟩
  · refine k_ic_ge_t (pc := 8) (tgt := 20) w6 d_Pt_isInSet_8 rfl ?_
    refine k_aload_n (pc := 20) rfl z_m1 d_Pt_isInSet_20 ?_
    obtain ⟨v2, e_v2, hf⟩ := z_bd hf
    refine k_getR (pc := 21) d_Pt_isInSet_21 fd_Pt_25 rfl e_v2 ?_
    refine k_iload_n (pc := 24) rfl z_m2 d_Pt_isInSet_24 ?_
    obtain ⟨v3, e_v3, hf⟩ := z_bd hf
    refine k_lald (pc := 25) d_Pt_isInSet_25 e_v3 ?_
    refine k_sub [0] rfl ?_
    exact b_Pt_isInSet_26 (zw (a2 - 32)) v3 h _ hf
  · refine k_ic_ge_f (pc := 8) (tgt := 20) w6 d_Pt_isInSet_8 rfl ?_
    refine k_aload_n (pc := 11) rfl z_m1 d_Pt_isInSet_11 ?_
    obtain ⟨v4, e_v4, hf⟩ := z_bd hf
    refine k_getR (pc := 12) d_Pt_isInSet_12 fd_Pt_21 rfl e_v4 ?_
    refine k_iload_n (pc := 15) rfl z_m2 d_Pt_isInSet_15 ?_
    obtain ⟨v5, e_v5, hf⟩ := z_bd hf
    refine k_lald (pc := 16) d_Pt_isInSet_16 e_v5 ?_
    refine k_goto (pc := 17) (tgt := 26) d_Pt_isInSet_17 rfl ?_
    refine k_sub [0] rfl ?_
    exact b_Pt_isInSet_26 (zw (a2 - 32)) v5 h _ hf
theorem t_Pt_isInSet {a0 : Nat} {a1 : Int} {a2 : Int} {h : zH} {r : Int × zH} (hf : f_Pt_isInSet a0 a1 a2 h = some r) : zMt m_Pt_isInSet [(2, ((a0 : Nat) : Int)), (0, a1), (0, a2)] h (some (0, r.1), r.2) := zMt.of (by decide) (Nat.le_of_ble_eq_true rfl) (b_Pt_isInSet_0 a0 a1 a2 h r hf)
theorem b_Se_fitsAtom_120 (h : zH) (r : Int × zH) (hf : f_Se_fitsAtom_120 h = some r) : zK m_Se_fitsAtom 120 [] [] h (some (0, r.1), r.2) := by
  unfold f_Se_fitsAtom_120 at hf
  refine k_iconst (pc := 120) (zi_lit rfl) d_Se_fitsAtom_120 ?_
  refine k_goto (pc := 121) (tgt := 125) d_Se_fitsAtom_121 rfl ?_
  cases hf
  exact k_zret (pc := 125) d_Se_fitsAtom_125 rfl (Or.inr rfl)
theorem b_Se_fitsAtom_104 (a1 : Nat) (a3 : Int) (a4 : Int) (a5 : Int) (h : zH) (r : Int × zH) (hf : f_Se_fitsAtom_104 a1 a3 a4 a5 h = some r) : zK m_Se_fitsAtom 104 [(1, (2, ((a1 : Nat) : Int))), (3, (0, a3)), (4, (0, a4)), (5, (0, a5))] [] h (some (0, r.1), r.2) := by
  unfold f_Se_fitsAtom_104 at hf
  refine k_iload (pc := 104) z_m2 d_Se_fitsAtom_104 ?_
  refine k_iconst (pc := 106) (zi_lit rfl) d_Se_fitsAtom_106 ?_
  rcases z_it hf with ⟨w4, hf⟩ | ⟨w4, hf⟩
  · refine k_ic_ne_f (pc := 107) (tgt := 124) w4 d_Se_fitsAtom_107 rfl ?_
    refine k_aload_n (pc := 110) rfl z_m0 d_Se_fitsAtom_110 ?_
    refine k_iload_n (pc := 111) rfl z_m1 d_Se_fitsAtom_111 ?_
    refine k_iload (pc := 112) z_m3 d_Se_fitsAtom_112 ?_
    obtain ⟨n1, e_n1, hf⟩ := z_bd hf
    obtain ⟨q2, e_q2, hf⟩ := z_bd hf
    refine k_callVi (pc := 114) (as := [(0, a3), (0, a5)]) (rest := []) d_Se_fitsAtom_114 cw_Se_fitsAtom_99 rfl (Nat.le_of_ble_eq_true rfl) (z_ck_of e_n1) (t_Pt_isInSet e_q2) ?_
    rcases z_it hf with ⟨w3, hf⟩ | ⟨w3, hf⟩
    · refine k_if_eq_t (pc := 117) (tgt := 124) w3 d_Se_fitsAtom_117 rfl ?_
      refine k_iconst (pc := 124) (zi_lit rfl) d_Se_fitsAtom_124 ?_
      cases hf
      exact k_zret (pc := 125) d_Se_fitsAtom_125 rfl (Or.inl rfl)
    · refine k_if_eq_f (pc := 117) (tgt := 124) w3 d_Se_fitsAtom_117 rfl ?_
      refine k_sub [] rfl ?_
      exact b_Se_fitsAtom_120 q2.2 _ hf
  · refine k_ic_ne_t (pc := 107) (tgt := 124) w4 d_Se_fitsAtom_107 rfl ?_
    refine k_iconst (pc := 124) (zi_lit rfl) d_Se_fitsAtom_124 ?_
    cases hf
    exact k_zret (pc := 125) d_Se_fitsAtom_125 rfl (Or.inl rfl)
theorem b_Se_fitsAtom_0 (a0 : Nat) (a1 : Nat) (a2 : Nat) (a3 : Int) (h : zH) (r : Int × zH) (hf : f_Se_fitsAtom a0 a1 a2 a3 h = some r) : zK m_Se_fitsAtom 0 [(0, (2, ((a0 : Nat) : Int))), (1, (2, ((a1 : Nat) : Int))), (2, (2, ((a2 : Nat) : Int))), (3, (0, a3))] [] h (some (0, r.1), r.2) := by
  unfold f_Se_fitsAtom at hf
  refine k_aload_n (pc := 0) rfl z_m1 d_Se_fitsAtom_0 ?_
  obtain ⟨v5, e_v5, hf⟩ := z_bd hf
  refine k_getR (pc := 1) d_Se_fitsAtom_1 fd_Se_70 rfl e_v5 ?_
  refine k_aload_n (pc := 4) rfl z_m0 d_Se_fitsAtom_4 ?_
  obtain ⟨v6, e_v6, hf⟩ := z_bd hf
  refine k_getI (pc := 5) d_Se_fitsAtom_5 fd_Se_57 rfl e_v6 ?_
  obtain ⟨v7, e_v7, hf⟩ := z_bd hf
  refine k_iald (pc := 8) d_Se_fitsAtom_8 e_v7 ?_
  refine k_istore (pc := 9) (L' := [(4, (0, v7)), (0, (2, ((a0 : Nat) : Int))), (1, (2, ((a1 : Nat) : Int))), (2, (2, ((a2 : Nat) : Int))), (3, (0, a3))]) d_Se_fitsAtom_9 (Nat.le_of_ble_eq_true rfl) rfl ?_
  refine k_iload (pc := 11) z_m0 d_Se_fitsAtom_11 ?_
  refine k_iconst (pc := 13) (zi_lit rfl) d_Se_fitsAtom_13 ?_
  rcases z_it hf with ⟨w25, hf⟩ | ⟨w25, hf⟩
  · refine k_ic_ne_f (pc := 14) (tgt := 30) w25 d_Se_fitsAtom_14 rfl ?_
    refine k_aload_n (pc := 17) rfl z_m1 d_Se_fitsAtom_17 ?_
    obtain ⟨v23, e_v23, hf⟩ := z_bd hf
    refine k_getI (pc := 18) d_Se_fitsAtom_18 fd_Se_60 rfl e_v23 ?_
    rcases z_it hf with ⟨w24, hf⟩ | ⟨w24, hf⟩
    · refine k_if_ne_f (pc := 21) (tgt := 28) w24 d_Se_fitsAtom_21 rfl ?_
      refine k_iconst (pc := 24) (zi_lit rfl) d_Se_fitsAtom_24 ?_
      refine k_goto (pc := 25) (tgt := 29) d_Se_fitsAtom_25 rfl ?_
      cases hf
      exact k_zret (pc := 29) d_Se_fitsAtom_29 rfl (Or.inr rfl)
    · refine k_if_ne_t (pc := 21) (tgt := 28) w24 d_Se_fitsAtom_21 rfl ?_
      refine k_iconst (pc := 28) (zi_lit rfl) d_Se_fitsAtom_28 ?_
      cases hf
      exact k_zret (pc := 29) d_Se_fitsAtom_29 rfl (Or.inl rfl)
  · refine k_ic_ne_t (pc := 14) (tgt := 30) w25 d_Se_fitsAtom_14 rfl ?_
    refine k_iload (pc := 30) z_m0 d_Se_fitsAtom_30 ?_
    refine k_iconst (pc := 32) (zi_lit rfl) d_Se_fitsAtom_32 ?_
    rcases z_it hf with ⟨w22, hf⟩ | ⟨w22, hf⟩
    · refine k_ic_ne_f (pc := 33) (tgt := 53) w22 d_Se_fitsAtom_33 rfl ?_
      refine k_aload_n (pc := 36) rfl z_m1 d_Se_fitsAtom_36 ?_
      obtain ⟨v19, e_v19, hf⟩ := z_bd hf
      refine k_getI (pc := 37) d_Se_fitsAtom_37 fd_Se_60 rfl e_v19 ?_
      refine k_aload_n (pc := 40) rfl z_m3 d_Se_fitsAtom_40 ?_
      obtain ⟨v20, e_v20, hf⟩ := z_bd hf
      refine k_getI (pc := 41) d_Se_fitsAtom_41 fd_Se_43 rfl e_v20 ?_
      rcases z_it hf with ⟨w21, hf⟩ | ⟨w21, hf⟩
      · refine k_ic_ne_f (pc := 44) (tgt := 51) w21 d_Se_fitsAtom_44 rfl ?_
        refine k_iconst (pc := 47) (zi_lit rfl) d_Se_fitsAtom_47 ?_
        refine k_goto (pc := 48) (tgt := 52) d_Se_fitsAtom_48 rfl ?_
        cases hf
        exact k_zret (pc := 52) d_Se_fitsAtom_52 rfl (Or.inr rfl)
      · refine k_ic_ne_t (pc := 44) (tgt := 51) w21 d_Se_fitsAtom_44 rfl ?_
        refine k_iconst (pc := 51) (zi_lit rfl) d_Se_fitsAtom_51 ?_
        cases hf
        exact k_zret (pc := 52) d_Se_fitsAtom_52 rfl (Or.inl rfl)
    · refine k_ic_ne_t (pc := 33) (tgt := 53) w22 d_Se_fitsAtom_33 rfl ?_
      refine k_aload_n (pc := 53) rfl z_m1 d_Se_fitsAtom_53 ?_
      obtain ⟨v8, e_v8, hf⟩ := z_bd hf
      refine k_getI (pc := 54) d_Se_fitsAtom_54 fd_Se_60 rfl e_v8 ?_
      refine k_aload_n (pc := 57) rfl z_m3 d_Se_fitsAtom_57 ?_
      obtain ⟨v9, e_v9, hf⟩ := z_bd hf
      refine k_getI (pc := 58) d_Se_fitsAtom_58 fd_Se_43 rfl e_v9 ?_
      rcases z_it hf with ⟨w18, hf⟩ | ⟨w18, hf⟩
      · refine k_ic_lt_t (pc := 61) (tgt := 66) w18 d_Se_fitsAtom_61 rfl ?_
        refine k_aload_n (pc := 66) rfl z_m3 d_Se_fitsAtom_66 ?_
        obtain ⟨v10, e_v10, hf⟩ := z_bd hf
        refine k_getR (pc := 67) d_Se_fitsAtom_67 fd_Se_95 rfl e_v10 ?_
        refine k_aload_n (pc := 70) rfl z_m1 d_Se_fitsAtom_70 ?_
        obtain ⟨v11, e_v11, hf⟩ := z_bd hf
        refine k_getI (pc := 71) d_Se_fitsAtom_71 fd_Se_60 rfl e_v11 ?_
        obtain ⟨v12, e_v12, hf⟩ := z_bd hf
        refine k_cald (pc := 74) d_Se_fitsAtom_74 e_v12 ?_
        refine k_istore (pc := 75) (L' := [(5, (0, v12)), (4, (0, v7)), (0, (2, ((a0 : Nat) : Int))), (1, (2, ((a1 : Nat) : Int))), (2, (2, ((a2 : Nat) : Int))), (3, (0, a3))]) d_Se_fitsAtom_75 (Nat.le_of_ble_eq_true rfl) rfl ?_
        refine k_aload_n (pc := 77) rfl z_m2 d_Se_fitsAtom_77 ?_
        refine k_dup (pc := 78) (Or.inr rfl) d_Se_fitsAtom_78 ?_
        obtain ⟨v13, e_v13, hf⟩ := z_bd hf
        refine k_getI (pc := 79) d_Se_fitsAtom_79 fd_Se_60 rfl e_v13 ?_
        refine k_iconst (pc := 82) (zi_lit rfl) d_Se_fitsAtom_82 ?_
        refine k_iadd (pc := 83) d_Se_fitsAtom_83 ?_
        obtain ⟨h14, e_h14, hf⟩ := z_bd hf
        refine k_putI (pc := 84) d_Se_fitsAtom_84 fd_Se_60 (fun q => by cases q) rfl e_h14 ?_
        refine k_iload (pc := 87) z_m1 d_Se_fitsAtom_87 ?_
        refine k_iconst (pc := 89) (zi_lit rfl) d_Se_fitsAtom_89 ?_
        rcases z_it hf with ⟨w17, hf⟩ | ⟨w17, hf⟩
        · refine k_ic_eq_t (pc := 90) (tgt := 120) w17 d_Se_fitsAtom_90 rfl ?_
          refine k_sub [] rfl ?_
          exact b_Se_fitsAtom_120 h14 _ hf
        · refine k_ic_eq_f (pc := 90) (tgt := 120) w17 d_Se_fitsAtom_90 rfl ?_
          refine k_iload (pc := 93) z_m1 d_Se_fitsAtom_93 ?_
          rcases z_it hf with ⟨w16, hf⟩ | ⟨w16, hf⟩
          · refine k_if_ne_f (pc := 95) (tgt := 104) w16 d_Se_fitsAtom_95 rfl ?_
            refine k_iload (pc := 98) z_m0 d_Se_fitsAtom_98 ?_
            refine k_iload_n (pc := 100) rfl z_m5 d_Se_fitsAtom_100 ?_
            rcases z_it hf with ⟨w15, hf⟩ | ⟨w15, hf⟩
            · refine k_ic_eq_t (pc := 101) (tgt := 120) w15 d_Se_fitsAtom_101 rfl ?_
              refine k_sub [] rfl ?_
              exact b_Se_fitsAtom_120 h14 _ hf
            · refine k_ic_eq_f (pc := 101) (tgt := 120) w15 d_Se_fitsAtom_101 rfl ?_
              refine k_sub [3, 5, 1, 0] rfl ?_
              exact b_Se_fitsAtom_104 a1 a3 v7 v12 h14 _ hf
          · refine k_if_ne_t (pc := 95) (tgt := 104) w16 d_Se_fitsAtom_95 rfl ?_
            refine k_sub [3, 5, 1, 0] rfl ?_
            exact b_Se_fitsAtom_104 a1 a3 v7 v12 h14 _ hf
      · refine k_ic_lt_f (pc := 61) (tgt := 66) w18 d_Se_fitsAtom_61 rfl ?_
        refine k_iconst (pc := 64) (zi_lit rfl) d_Se_fitsAtom_64 ?_
        cases hf
        exact k_zret (pc := 65) d_Se_fitsAtom_65 rfl (Or.inl rfl)
theorem t_Se_fitsAtom {a0 : Nat} {a1 : Nat} {a2 : Nat} {a3 : Int} {h : zH} {r : Int × zH} (hf : f_Se_fitsAtom a0 a1 a2 a3 h = some r) : zMt m_Se_fitsAtom [(2, ((a0 : Nat) : Int)), (2, ((a1 : Nat) : Int)), (2, ((a2 : Nat) : Int)), (0, a3)] h (some (0, r.1), r.2) := zMt.of (by decide) (Nat.le_of_ble_eq_true rfl) (b_Se_fitsAtom_0 a0 a1 a2 a3 h r hf)
theorem b_Se_goBack_81 (c7 : Nat → Int → Int → zH → Option (Int × zH)) (k7 : ∀ (x0 : Nat) (x1 : Int) (x2 : Int) (g : zH) (r : Int × zH), c7 x0 x1 x2 g = some r → zK m_Se_goBack 7 [(0, (2, ((x0 : Nat) : Int))), (1, (0, x1)), (2, (0, x2))] [] g (some (0, r.1), r.2)) (a0 : Nat) (a1 : Int) (a2 : Int) (h : zH) (r : Int × zH) (hf : f_Se_goBack_81 c7 a0 a1 a2 h = some r) : zK m_Se_goBack 81 [(0, (2, ((a0 : Nat) : Int))), (1, (0, a1)), (2, (0, a2))] [] h (some (0, r.1), r.2) := by
  unfold f_Se_goBack_81 at hf
  refine k_iinc (pc := 81) (L' := [(2, (0, zw (a2 + (-1)))), (0, (2, ((a0 : Nat) : Int))), (1, (0, a1))]) z_m2 d_Se_goBack_81 (Nat.le_of_ble_eq_true rfl) rfl ?_
  refine k_goto (pc := 84) (tgt := 7) d_Se_goBack_84 rfl ?_
  refine k_sub [1, 2, 0] rfl ?_
  exact k7 a0 a1 (zw (a2 + (-1))) h _ hf
theorem b_Se_goBack_40 (c7 : Nat → Int → Int → zH → Option (Int × zH)) (k7 : ∀ (x0 : Nat) (x1 : Int) (x2 : Int) (g : zH) (r : Int × zH), c7 x0 x1 x2 g = some r → zK m_Se_goBack 7 [(0, (2, ((x0 : Nat) : Int))), (1, (0, x1)), (2, (0, x2))] [] g (some (0, r.1), r.2)) (a0 : Nat) (a2 : Int) (a3 : Int) (s0 : Int) (h : zH) (r : Int × zH) (hf : f_Se_goBack_40 c7 a0 a2 a3 s0 h = some r) : zK m_Se_goBack 40 [(0, (2, ((a0 : Nat) : Int))), (2, (0, a2)), (3, (0, a3))] [(0, s0)] h (some (0, r.1), r.2) := by
  unfold f_Se_goBack_40 at hf
  refine k_istore_n (pc := 40) (L' := [(1, (0, s0)), (0, (2, ((a0 : Nat) : Int))), (2, (0, a2)), (3, (0, a3))]) rfl d_Se_goBack_40 (Nat.le_of_ble_eq_true rfl) rfl ?_
  refine k_iload_n (pc := 41) rfl z_m0 d_Se_goBack_41 ?_
  rcases z_it hf with ⟨w9, hf⟩ | ⟨w9, hf⟩
  · refine k_if_eq_t (pc := 42) (tgt := 65) w9 d_Se_goBack_42 rfl ?_
    refine k_aload_n (pc := 65) rfl z_m1 d_Se_goBack_65 ?_
    obtain ⟨v1, e_v1, hf⟩ := z_bd hf
    refine k_getR (pc := 66) d_Se_goBack_66 fd_Se_11 rfl e_v1 ?_
    refine k_iconst (pc := 69) (zi_lit rfl) d_Se_goBack_69 ?_
    refine k_iload_n (pc := 70) rfl z_m3 d_Se_goBack_70 ?_
    refine k_isub (pc := 71) d_Se_goBack_71 ?_
    refine k_aload_n (pc := 72) rfl z_m1 d_Se_goBack_72 ?_
    obtain ⟨v2, e_v2, hf⟩ := z_bd hf
    refine k_getR (pc := 73) d_Se_goBack_73 fd_Se_20 rfl e_v2 ?_
    refine k_iload_n (pc := 76) rfl z_m2 d_Se_goBack_76 ?_
    refine k_iconst (pc := 77) (zi_lit rfl) d_Se_goBack_77 ?_
    refine k_isub (pc := 78) d_Se_goBack_78 ?_
    obtain ⟨v3, e_v3, hf⟩ := z_bd hf
    refine k_iald (pc := 79) d_Se_goBack_79 e_v3 ?_
    obtain ⟨h4, e_h4, hf⟩ := z_bd hf
    refine k_iast (pc := 80) d_Se_goBack_80 e_h4 ?_
    refine k_sub [1, 0, 2] rfl ?_
    exact b_Se_goBack_81 c7 k7 a0 s0 a2 h4 _ hf
  · refine k_if_eq_f (pc := 42) (tgt := 65) w9 d_Se_goBack_42 rfl ?_
    refine k_aload_n (pc := 45) rfl z_m1 d_Se_goBack_45 ?_
    refine k_iload_n (pc := 46) rfl z_m3 d_Se_goBack_46 ?_
    obtain ⟨h5, e_h5, hf⟩ := z_bd hf
    refine k_putI (pc := 47) d_Se_goBack_47 fd_Se_57 (fun q => by cases q) rfl e_h5 ?_
    refine k_aload_n (pc := 50) rfl z_m1 d_Se_goBack_50 ?_
    refine k_aload_n (pc := 51) rfl z_m1 d_Se_goBack_51 ?_
    obtain ⟨v6, e_v6, hf⟩ := z_bd hf
    refine k_getR (pc := 52) d_Se_goBack_52 fd_Se_20 rfl e_v6 ?_
    refine k_iload_n (pc := 55) rfl z_m2 d_Se_goBack_55 ?_
    refine k_iconst (pc := 56) (zi_lit rfl) d_Se_goBack_56 ?_
    refine k_isub (pc := 57) d_Se_goBack_57 ?_
    obtain ⟨v7, e_v7, hf⟩ := z_bd hf
    refine k_iald (pc := 58) d_Se_goBack_58 e_v7 ?_
    obtain ⟨h8, e_h8, hf⟩ := z_bd hf
    refine k_putI (pc := 59) d_Se_goBack_59 fd_Se_60 (fun q => by cases q) rfl e_h8 ?_
    refine k_goto (pc := 62) (tgt := 81) d_Se_goBack_62 rfl ?_
    refine k_sub [1, 0, 2] rfl ?_
    exact b_Se_goBack_81 c7 k7 a0 s0 a2 h8 _ hf
theorem b_Se_goBack_7 : ∀ (n : Nat) (a0 : Nat) (a1 : Int) (a2 : Int) (h : zH) (r : Int × zH), f_Se_goBack_7 n a0 a1 a2 h = some r → zK m_Se_goBack 7 [(0, (2, ((a0 : Nat) : Int))), (1, (0, a1)), (2, (0, a2))] [] h (some (0, r.1), r.2) := by
  intro n
  induction n with
  | zero =>
    intro a0 a1 a2 h r hf
    cases hf
  | succ n ih =>
    intro a0 a1 a2 h r hf
    unfold f_Se_goBack_7 at hf
    refine k_iload_n (pc := 7) rfl z_m2 d_Se_goBack_7 ?_
    rcases z_it hf with ⟨w15, hf⟩ | ⟨w15, hf⟩
    · refine k_if_le_t (pc := 8) (tgt := 87) w15 d_Se_goBack_8 rfl ?_
      refine k_iload_n (pc := 87) rfl z_m1 d_Se_goBack_87 ?_
      obtain ⟨b, eb, hf⟩ := z_bd hf
      have hb := z_bo_of eb
      rw [hb.1] at hf
      cases hf
      exact k_zret (pc := 88) d_Se_goBack_88 rfl hb.2
    · refine k_if_le_f (pc := 8) (tgt := 87) w15 d_Se_goBack_8 rfl ?_
      refine k_iload_n (pc := 11) rfl z_m1 d_Se_goBack_11 ?_
      rcases z_it hf with ⟨w14, hf⟩ | ⟨w14, hf⟩
      · refine k_if_ne_f (pc := 12) (tgt := 87) w14 d_Se_goBack_12 rfl ?_
        refine k_aload_n (pc := 15) rfl z_m0 d_Se_goBack_15 ?_
        refine k_iload_n (pc := 16) rfl z_m2 d_Se_goBack_16 ?_
        refine k_iconst (pc := 17) (zi_lit rfl) d_Se_goBack_17 ?_
        refine k_isub (pc := 18) d_Se_goBack_18 ?_
        obtain ⟨h10, e_h10, hf⟩ := z_bd hf
        refine k_putI (pc := 19) d_Se_goBack_19 fd_Se_54 (fun q => by cases q) rfl e_h10 ?_
        refine k_aload_n (pc := 22) rfl z_m0 d_Se_goBack_22 ?_
        obtain ⟨v11, e_v11, hf⟩ := z_bd hf
        refine k_getR (pc := 23) d_Se_goBack_23 fd_Se_17 rfl e_v11 ?_
        refine k_iload_n (pc := 26) rfl z_m2 d_Se_goBack_26 ?_
        refine k_iconst (pc := 27) (zi_lit rfl) d_Se_goBack_27 ?_
        refine k_isub (pc := 28) d_Se_goBack_28 ?_
        obtain ⟨v12, e_v12, hf⟩ := z_bd hf
        refine k_iald (pc := 29) d_Se_goBack_29 e_v12 ?_
        refine k_istore_n (pc := 30) (L' := [(3, (0, v12)), (0, (2, ((a0 : Nat) : Int))), (1, (0, a1)), (2, (0, a2))]) rfl d_Se_goBack_30 (Nat.le_of_ble_eq_true rfl) rfl ?_
        refine k_iload_n (pc := 31) rfl z_m0 d_Se_goBack_31 ?_
        rcases z_it hf with ⟨w13, hf⟩ | ⟨w13, hf⟩
        · refine k_if_lt_t (pc := 32) (tgt := 39) w13 d_Se_goBack_32 rfl ?_
          refine k_iconst (pc := 39) (zi_lit rfl) d_Se_goBack_39 ?_
          refine k_sub [1, 3, 0] rfl ?_
          exact b_Se_goBack_40 (f_Se_goBack_7 n) ih a0 a2 v12 0 h10 _ hf
        · refine k_if_lt_f (pc := 32) (tgt := 39) w13 d_Se_goBack_32 rfl ?_
          refine k_iconst (pc := 35) (zi_lit rfl) d_Se_goBack_35 ?_
          refine k_goto (pc := 36) (tgt := 40) d_Se_goBack_36 rfl ?_
          refine k_sub [1, 3, 0] rfl ?_
          exact b_Se_goBack_40 (f_Se_goBack_7 n) ih a0 a2 v12 1 h10 _ hf
      · refine k_if_ne_t (pc := 12) (tgt := 87) w14 d_Se_goBack_12 rfl ?_
        refine k_iload_n (pc := 87) rfl z_m1 d_Se_goBack_87 ?_
        obtain ⟨b, eb, hf⟩ := z_bd hf
        have hb := z_bo_of eb
        rw [hb.1] at hf
        cases hf
        exact k_zret (pc := 88) d_Se_goBack_88 rfl hb.2
theorem b_Se_goBack_0 (a0 : Nat) (h : zH) (r : Int × zH) (hf : f_Se_goBack a0 h = some r) : zK m_Se_goBack 0 [(0, (2, ((a0 : Nat) : Int)))] [] h (some (0, r.1), r.2) := by
  unfold f_Se_goBack at hf
  refine k_iconst (pc := 0) (zi_lit rfl) d_Se_goBack_0 ?_
  refine k_istore_n (pc := 1) (L' := [(1, (0, 0)), (0, (2, ((a0 : Nat) : Int)))]) rfl d_Se_goBack_1 (Nat.le_of_ble_eq_true rfl) rfl ?_
  refine k_aload_n (pc := 2) rfl z_m1 d_Se_goBack_2 ?_
  obtain ⟨v16, e_v16, hf⟩ := z_bd hf
  refine k_getI (pc := 3) d_Se_goBack_3 fd_Se_54 rfl e_v16 ?_
  refine k_istore_n (pc := 6) (L' := [(2, (0, v16)), (1, (0, 0)), (0, (2, ((a0 : Nat) : Int)))]) rfl d_Se_goBack_6 (Nat.le_of_ble_eq_true rfl) rfl ?_
  refine k_sub [2, 1, 0] rfl ?_
  exact b_Se_goBack_7 100000 a0 0 v16 h _ hf
theorem t_Se_goBack {a0 : Nat} {h : zH} {r : Int × zH} (hf : f_Se_goBack a0 h = some r) : zMt m_Se_goBack [(2, ((a0 : Nat) : Int))] h (some (0, r.1), r.2) := zMt.of (by decide) (Nat.le_of_ble_eq_true rfl) (b_Se_goBack_0 a0 h r hf)
theorem b_Se_doNext_207 (h : zH) (r : Int × zH) (hf : f_Se_doNext_207 h = some r) : zK m_Se_doNext 207 [] [] h (some (0, r.1), r.2) := by
  unfold f_Se_doNext_207 at hf
  refine k_iconst (pc := 207) (zi_lit rfl) d_Se_doNext_207 ?_
  refine k_goto (pc := 208) (tgt := 212) d_Se_doNext_208 rfl ?_
  cases hf
  exact k_zret (pc := 212) d_Se_doNext_212 rfl (Or.inr rfl)
theorem b_Se_doNext_178 (a0 : Nat) (a5 : Int) (h : zH) (r : Int × zH) (hf : f_Se_doNext_178 a0 a5 h = some r) : zK m_Se_doNext 178 [(0, (2, ((a0 : Nat) : Int))), (5, (0, a5))] [] h (some (0, r.1), r.2) := by
  unfold f_Se_doNext_178 at hf
  refine k_aload_n (pc := 178) rfl z_m0 d_Se_doNext_178 ?_
  refine k_dup (pc := 179) (Or.inr rfl) d_Se_doNext_179 ?_
  obtain ⟨v1, e_v1, hf⟩ := z_bd hf
  refine k_getI (pc := 180) d_Se_doNext_180 fd_Se_57 rfl e_v1 ?_
  refine k_iconst (pc := 183) (zi_lit rfl) d_Se_doNext_183 ?_
  refine k_iadd (pc := 184) d_Se_doNext_184 ?_
  obtain ⟨h2, e_h2, hf⟩ := z_bd hf
  refine k_putI (pc := 185) d_Se_doNext_185 fd_Se_57 (fun q => by cases q) rfl e_h2 ?_
  refine k_iload (pc := 188) z_m1 d_Se_doNext_188 ?_
  rcases z_it hf with ⟨w8, hf⟩ | ⟨w8, hf⟩
  · refine k_if_ne_f (pc := 190) (tgt := 207) w8 d_Se_doNext_190 rfl ?_
    refine k_aload_n (pc := 193) rfl z_m0 d_Se_doNext_193 ?_
    obtain ⟨v3, e_v3, hf⟩ := z_bd hf
    refine k_getI (pc := 194) d_Se_doNext_194 fd_Se_36 rfl e_v3 ?_
    rcases z_it hf with ⟨w7, hf⟩ | ⟨w7, hf⟩
    · refine k_if_ne_f (pc := 197) (tgt := 211) w7 d_Se_doNext_197 rfl ?_
      refine k_aload_n (pc := 200) rfl z_m0 d_Se_doNext_200 ?_
      obtain ⟨n4, e_n4, hf⟩ := z_bd hf
      obtain ⟨q5, e_q5, hf⟩ := z_bd hf
      refine k_callVi (pc := 201) (as := []) (rest := []) d_Se_doNext_201 cw_Se_doNext_92 rfl (Nat.le_of_ble_eq_true rfl) (z_ck_of e_n4) (t_Se_goBack e_q5) ?_
      rcases z_it hf with ⟨w6, hf⟩ | ⟨w6, hf⟩
      · refine k_if_eq_t (pc := 204) (tgt := 211) w6 d_Se_doNext_204 rfl ?_
        refine k_iconst (pc := 211) (zi_lit rfl) d_Se_doNext_211 ?_
        cases hf
        exact k_zret (pc := 212) d_Se_doNext_212 rfl (Or.inl rfl)
      · refine k_if_eq_f (pc := 204) (tgt := 211) w6 d_Se_doNext_204 rfl ?_
        refine k_sub [] rfl ?_
        exact b_Se_doNext_207 q5.2 _ hf
    · refine k_if_ne_t (pc := 197) (tgt := 211) w7 d_Se_doNext_197 rfl ?_
      refine k_iconst (pc := 211) (zi_lit rfl) d_Se_doNext_211 ?_
      cases hf
      exact k_zret (pc := 212) d_Se_doNext_212 rfl (Or.inl rfl)
  · refine k_if_ne_t (pc := 190) (tgt := 207) w8 d_Se_doNext_190 rfl ?_
    refine k_sub [] rfl ?_
    exact b_Se_doNext_207 h2 _ hf
theorem b_Se_doNext_176 (a0 : Nat) (s0 : Int) (h : zH) (r : Int × zH) (hf : f_Se_doNext_176 a0 s0 h = some r) : zK m_Se_doNext 176 [(0, (2, ((a0 : Nat) : Int)))] [(0, s0)] h (some (0, r.1), r.2) := by
  unfold f_Se_doNext_176 at hf
  refine k_istore (pc := 176) (L' := [(5, (0, s0)), (0, (2, ((a0 : Nat) : Int)))]) d_Se_doNext_176 (Nat.le_of_ble_eq_true rfl) rfl ?_
  refine k_sub [1, 0] rfl ?_
  exact b_Se_doNext_178 a0 s0 h _ hf
theorem b_Se_doNext_175 (a0 : Nat) (h : zH) (r : Int × zH) (hf : f_Se_doNext_175 a0 h = some r) : zK m_Se_doNext 175 [(0, (2, ((a0 : Nat) : Int)))] [] h (some (0, r.1), r.2) := by
  unfold f_Se_doNext_175 at hf
  refine k_iconst (pc := 175) (zi_lit rfl) d_Se_doNext_175 ?_
  exact b_Se_doNext_176 a0 0 h _ hf
theorem b_Se_doNext_0 (a0 : Nat) (a1 : Nat) (a2 : Nat) (a3 : Nat) (h : zH) (r : Int × zH) (hf : f_Se_doNext a0 a1 a2 a3 h = some r) : zK m_Se_doNext 0 [(0, (2, ((a0 : Nat) : Int))), (1, (2, ((a1 : Nat) : Int))), (2, (2, ((a2 : Nat) : Int))), (3, (2, ((a3 : Nat) : Int)))] [] h (some (0, r.1), r.2) := by
  unfold f_Se_doNext at hf
  refine k_aload_n (pc := 0) rfl z_m1 d_Se_doNext_0 ?_
  obtain ⟨v9, e_v9, hf⟩ := z_bd hf
  refine k_getR (pc := 1) d_Se_doNext_1 fd_Se_67 rfl e_v9 ?_
  refine k_aload_n (pc := 4) rfl z_m0 d_Se_doNext_4 ?_
  obtain ⟨v10, e_v10, hf⟩ := z_bd hf
  refine k_getI (pc := 5) d_Se_doNext_5 fd_Se_57 rfl e_v10 ?_
  obtain ⟨v11, e_v11, hf⟩ := z_bd hf
  refine k_iald (pc := 8) d_Se_doNext_8 e_v11 ?_
  refine k_istore (pc := 9) (L' := [(4, (0, v11)), (0, (2, ((a0 : Nat) : Int))), (1, (2, ((a1 : Nat) : Int))), (2, (2, ((a2 : Nat) : Int))), (3, (2, ((a3 : Nat) : Int)))]) d_Se_doNext_9 (Nat.le_of_ble_eq_true rfl) rfl ?_
  refine k_iconst (pc := 11) (zi_lit rfl) d_Se_doNext_11 ?_
  refine k_istore (pc := 12) (L' := [(5, (0, 1)), (4, (0, v11)), (0, (2, ((a0 : Nat) : Int))), (1, (2, ((a1 : Nat) : Int))), (2, (2, ((a2 : Nat) : Int))), (3, (2, ((a3 : Nat) : Int)))]) d_Se_doNext_12 (Nat.le_of_ble_eq_true rfl) rfl ?_
  refine k_aload_n (pc := 14) rfl z_m3 d_Se_doNext_14 ?_
  obtain ⟨v12, e_v12, hf⟩ := z_bd hf
  refine k_getR (pc := 15) d_Se_doNext_15 fd_Se_70 rfl e_v12 ?_
  refine k_aload_n (pc := 18) rfl z_m2 d_Se_doNext_18 ?_
  obtain ⟨v13, e_v13, hf⟩ := z_bd hf
  refine k_getI (pc := 19) d_Se_doNext_19 fd_Se_57 rfl e_v13 ?_
  obtain ⟨v14, e_v14, hf⟩ := z_bd hf
  refine k_iald (pc := 22) d_Se_doNext_22 e_v14 ?_
  rcases z_it hf with ⟨w17, hf⟩ | ⟨w17, hf⟩
  · refine k_tabI (pc := 23) (tgt := 140) (off := 117) d_Se_doNext_23 (by rw [w17]; decide) (by rw [w17]; decide) (by rw [w17]; rfl) rfl ?_
    refine k_aload_n (pc := 140) rfl z_m2 d_Se_doNext_140 ?_
    refine k_aload_n (pc := 141) rfl z_m4 d_Se_doNext_141 ?_
    refine k_aload_n (pc := 142) rfl z_m5 d_Se_doNext_142 ?_
    refine k_iload (pc := 143) z_m1 d_Se_doNext_143 ?_
    obtain ⟨n15, e_n15, hf⟩ := z_bd hf
    obtain ⟨q16, e_q16, hf⟩ := z_bd hf
    refine k_callVi (pc := 145) (as := [(2, ((a2 : Nat) : Int)), (2, ((a3 : Nat) : Int)), (0, v11)]) (rest := []) d_Se_doNext_145 cw_Se_doNext_80 rfl (Nat.le_of_ble_eq_true rfl) (z_ck_of e_n15) (t_Se_fitsText e_q16) ?_
    refine k_istore (pc := 148) (L' := [(5, (0, q16.1)), (4, (0, v11)), (0, (2, ((a0 : Nat) : Int))), (1, (2, ((a1 : Nat) : Int))), (2, (2, ((a2 : Nat) : Int))), (3, (2, ((a3 : Nat) : Int)))]) d_Se_doNext_148 (Nat.le_of_ble_eq_true rfl) rfl ?_
    refine k_goto (pc := 150) (tgt := 178) d_Se_doNext_150 rfl ?_
    refine k_sub [2, 0] rfl ?_
    exact b_Se_doNext_178 a0 q16.1 q16.2 _ hf
  rcases z_it hf with ⟨w27, hf⟩ | ⟨w27, hf⟩
  · refine k_tabI (pc := 23) (tgt := 76) (off := 53) d_Se_doNext_23 (by rw [w27]; decide) (by rw [w27]; decide) (by rw [w27]; rfl) rfl ?_
    refine k_aload_n (pc := 76) rfl z_m2 d_Se_doNext_76 ?_
    refine k_aload_n (pc := 77) rfl z_m2 d_Se_doNext_77 ?_
    obtain ⟨v18, e_v18, hf⟩ := z_bd hf
    refine k_getI (pc := 78) d_Se_doNext_78 fd_Se_57 rfl e_v18 ?_
    refine k_aload_n (pc := 81) rfl z_m3 d_Se_doNext_81 ?_
    obtain ⟨v19, e_v19, hf⟩ := z_bd hf
    refine k_getR (pc := 82) d_Se_doNext_82 fd_Se_73 rfl e_v19 ?_
    refine k_aload_n (pc := 85) rfl z_m2 d_Se_doNext_85 ?_
    obtain ⟨v20, e_v20, hf⟩ := z_bd hf
    refine k_getI (pc := 86) d_Se_doNext_86 fd_Se_57 rfl e_v20 ?_
    obtain ⟨v21, e_v21, hf⟩ := z_bd hf
    refine k_iald (pc := 89) d_Se_doNext_89 e_v21 ?_
    refine k_iadd (pc := 90) d_Se_doNext_90 ?_
    refine k_aload_n (pc := 91) rfl z_m2 d_Se_doNext_91 ?_
    obtain ⟨v22, e_v22, hf⟩ := z_bd hf
    refine k_getI (pc := 92) d_Se_doNext_92 fd_Se_60 rfl e_v22 ?_
    obtain ⟨n23, e_n23, hf⟩ := z_bd hf
    obtain ⟨h24, e_h24, hf⟩ := z_bd hf
    refine k_callVv (pc := 95) (as := [(0, zw (v18 + v21)), (0, v22)]) (rest := []) d_Se_doNext_95 cw_Se_doNext_76 rfl (Nat.le_of_ble_eq_true rfl) (z_ck_of e_n23) (t_Se_leaveWaiting e_h24) ?_
    refine k_aload_n (pc := 98) rfl z_m2 d_Se_doNext_98 ?_
    refine k_dup (pc := 99) (Or.inr rfl) d_Se_doNext_99 ?_
    obtain ⟨v25, e_v25, hf⟩ := z_bd hf
    refine k_getI (pc := 100) d_Se_doNext_100 fd_Se_57 rfl e_v25 ?_
    refine k_iload (pc := 103) z_m1 d_Se_doNext_103 ?_
    refine k_iadd (pc := 105) d_Se_doNext_105 ?_
    obtain ⟨h26, e_h26, hf⟩ := z_bd hf
    refine k_putI (pc := 106) d_Se_doNext_106 fd_Se_57 (fun q => by cases q) rfl e_h26 ?_
    refine k_iconst (pc := 109) (zi_lit rfl) d_Se_doNext_109 ?_
    cases hf
    exact k_zret (pc := 110) d_Se_doNext_110 rfl (Or.inr rfl)
  rcases z_it hf with ⟨w30, hf⟩ | ⟨w30, hf⟩
  · refine k_tabI (pc := 23) (tgt := 63) (off := 40) d_Se_doNext_23 (by rw [w30]; decide) (by rw [w30]; decide) (by rw [w30]; rfl) rfl ?_
    refine k_aload_n (pc := 63) rfl z_m2 d_Se_doNext_63 ?_
    refine k_dup (pc := 64) (Or.inr rfl) d_Se_doNext_64 ?_
    obtain ⟨v28, e_v28, hf⟩ := z_bd hf
    refine k_getI (pc := 65) d_Se_doNext_65 fd_Se_57 rfl e_v28 ?_
    refine k_iload (pc := 68) z_m1 d_Se_doNext_68 ?_
    refine k_iadd (pc := 70) d_Se_doNext_70 ?_
    obtain ⟨h29, e_h29, hf⟩ := z_bd hf
    refine k_putI (pc := 71) d_Se_doNext_71 fd_Se_57 (fun q => by cases q) rfl e_h29 ?_
    refine k_iconst (pc := 74) (zi_lit rfl) d_Se_doNext_74 ?_
    cases hf
    exact k_zret (pc := 75) d_Se_doNext_75 rfl (Or.inr rfl)
  rcases z_it hf with ⟨w38, hf⟩ | ⟨w38, hf⟩
  · refine k_tabI (pc := 23) (tgt := 111) (off := 88) d_Se_doNext_23 (by rw [w38]; decide) (by rw [w38]; decide) (by rw [w38]; rfl) rfl ?_
    refine k_aload_n (pc := 111) rfl z_m2 d_Se_doNext_111 ?_
    refine k_iconst (pc := 112) (zi_lit rfl) d_Se_doNext_112 ?_
    refine k_iload (pc := 113) z_m1 d_Se_doNext_113 ?_
    refine k_isub (pc := 115) d_Se_doNext_115 ?_
    refine k_aload_n (pc := 116) rfl z_m2 d_Se_doNext_116 ?_
    obtain ⟨v31, e_v31, hf⟩ := z_bd hf
    refine k_getR (pc := 117) d_Se_doNext_117 fd_Se_11 rfl e_v31 ?_
    refine k_iload (pc := 120) z_m1 d_Se_doNext_120 ?_
    obtain ⟨v32, e_v32, hf⟩ := z_bd hf
    refine k_iald (pc := 122) d_Se_doNext_122 e_v32 ?_
    obtain ⟨n33, e_n33, hf⟩ := z_bd hf
    obtain ⟨h34, e_h34, hf⟩ := z_bd hf
    refine k_callVv (pc := 123) (as := [(0, zw ((-1) - v11)), (0, v32)]) (rest := []) d_Se_doNext_123 cw_Se_doNext_76 rfl (Nat.le_of_ble_eq_true rfl) (z_ck_of e_n33) (t_Se_leaveWaiting e_h34) ?_
    refine k_aload_n (pc := 126) rfl z_m2 d_Se_doNext_126 ?_
    obtain ⟨v35, e_v35, hf⟩ := z_bd hf
    refine k_getR (pc := 127) d_Se_doNext_127 fd_Se_11 rfl e_v35 ?_
    refine k_iload (pc := 130) z_m1 d_Se_doNext_130 ?_
    refine k_aload_n (pc := 132) rfl z_m2 d_Se_doNext_132 ?_
    obtain ⟨v36, e_v36, hf⟩ := z_bd hf
    refine k_getI (pc := 133) d_Se_doNext_133 fd_Se_60 rfl e_v36 ?_
    obtain ⟨h37, e_h37, hf⟩ := z_bd hf
    refine k_iast (pc := 136) d_Se_doNext_136 e_h37 ?_
    refine k_goto (pc := 137) (tgt := 178) d_Se_doNext_137 rfl ?_
    refine k_sub [2, 0] rfl ?_
    exact b_Se_doNext_178 a0 1 h37 _ hf
  rcases z_it hf with ⟨w40, hf⟩ | ⟨w40, hf⟩
  · refine k_tabI (pc := 23) (tgt := 56) (off := 33) d_Se_doNext_23 (by rw [w40]; decide) (by rw [w40]; decide) (by rw [w40]; rfl) rfl ?_
    refine k_aload_n (pc := 56) rfl z_m2 d_Se_doNext_56 ?_
    refine k_iconst (pc := 57) (zi_lit rfl) d_Se_doNext_57 ?_
    obtain ⟨h39, e_h39, hf⟩ := z_bd hf
    refine k_putZ (pc := 58) d_Se_doNext_58 fd_Se_40 (fun q => by cases q) rfl e_h39 ?_
    refine k_iconst (pc := 61) (zi_lit rfl) d_Se_doNext_61 ?_
    cases hf
    exact k_zret (pc := 62) d_Se_doNext_62 rfl (Or.inl rfl)
  refine k_tabO (pc := 23) (tgt := 153) d_Se_doNext_23 (by omega) rfl ?_
  refine k_aload_n (pc := 153) rfl z_m2 d_Se_doNext_153 ?_
  obtain ⟨n41, e_n41, hf⟩ := z_bd hf
  obtain ⟨q42, e_q42, hf⟩ := z_bd hf
  refine k_callVi (pc := 154) (as := []) (rest := []) d_Se_doNext_154 cw_Se_doNext_84 rfl (Nat.le_of_ble_eq_true rfl) (z_ck_of e_n41) (t_Se_makeStep e_q42) ?_
  rcases z_it hf with ⟨w46, hf⟩ | ⟨w46, hf⟩
  · refine k_if_eq_t (pc := 157) (tgt := 175) w46 d_Se_doNext_157 rfl ?_
    refine k_sub [2] rfl ?_
    exact b_Se_doNext_175 a0 q42.2 _ hf
  · refine k_if_eq_f (pc := 157) (tgt := 175) w46 d_Se_doNext_157 rfl ?_
    refine k_aload_n (pc := 160) rfl z_m2 d_Se_doNext_160 ?_
    refine k_aload_n (pc := 161) rfl z_m3 d_Se_doNext_161 ?_
    refine k_aload_n (pc := 162) rfl z_m4 d_Se_doNext_162 ?_
    refine k_iload (pc := 163) z_m1 d_Se_doNext_163 ?_
    obtain ⟨n43, e_n43, hf⟩ := z_bd hf
    obtain ⟨q44, e_q44, hf⟩ := z_bd hf
    refine k_callVi (pc := 165) (as := [(2, ((a1 : Nat) : Int)), (2, ((a2 : Nat) : Int)), (0, v11)]) (rest := []) d_Se_doNext_165 cw_Se_doNext_88 rfl (Nat.le_of_ble_eq_true rfl) (z_ck_of e_n43) (t_Se_fitsAtom e_q44) ?_
    rcases z_it hf with ⟨w45, hf⟩ | ⟨w45, hf⟩
    · refine k_if_eq_t (pc := 168) (tgt := 175) w45 d_Se_doNext_168 rfl ?_
      refine k_sub [2] rfl ?_
      exact b_Se_doNext_175 a0 q44.2 _ hf
    · refine k_if_eq_f (pc := 168) (tgt := 175) w45 d_Se_doNext_168 rfl ?_
      refine k_iconst (pc := 171) (zi_lit rfl) d_Se_doNext_171 ?_
      refine k_goto (pc := 172) (tgt := 176) d_Se_doNext_172 rfl ?_
      refine k_sub [2] rfl ?_
      exact b_Se_doNext_176 a0 1 q44.2 _ hf
theorem t_Se_doNext {a0 : Nat} {a1 : Nat} {a2 : Nat} {a3 : Nat} {h : zH} {r : Int × zH} (hf : f_Se_doNext a0 a1 a2 a3 h = some r) : zMt m_Se_doNext [(2, ((a0 : Nat) : Int)), (2, ((a1 : Nat) : Int)), (2, ((a2 : Nat) : Int)), (2, ((a3 : Nat) : Int))] h (some (0, r.1), r.2) := zMt.of (by decide) (Nat.le_of_ble_eq_true rfl) (b_Se_doNext_0 a0 a1 a2 a3 h r hf)
theorem b_Se_run_143 (c28 : Nat → Nat → Nat → Nat → Int → zH → Option (zH)) (k28 : ∀ (x0 : Nat) (x1 : Nat) (x2 : Nat) (x4 : Nat) (x5 : Int) (g : zH) (r : zH), c28 x0 x1 x2 x4 x5 g = some r → zK m_Se_run 28 [(0, (2, ((x0 : Nat) : Int))), (1, (2, ((x1 : Nat) : Int))), (2, (2, ((x2 : Nat) : Int))), (4, (2, ((x4 : Nat) : Int))), (5, (0, x5))] [] g (none, r)) (a0 : Nat) (a1 : Nat) (a2 : Nat) (a4 : Nat) (a5 : Int) (s0 : Nat) (s1 : Int) (h : zH) (r : zH) (hf : f_Se_run_143 c28 a0 a1 a2 a4 a5 s0 s1 h = some r) : zK m_Se_run 143 [(0, (2, ((a0 : Nat) : Int))), (1, (2, ((a1 : Nat) : Int))), (2, (2, ((a2 : Nat) : Int))), (4, (2, ((a4 : Nat) : Int))), (5, (0, a5))] [(0, s1), (2, ((s0 : Nat) : Int))] h (none, r) := by
  unfold f_Se_run_143 at hf
  obtain ⟨h1, e_h1, hf⟩ := z_bd hf
  refine k_putI (pc := 143) d_Se_run_143 fd_Se_30 (fun q => by cases q) rfl e_h1 ?_
  refine k_iinc (pc := 146) (L' := [(5, (0, zw (a5 + 1))), (0, (2, ((a0 : Nat) : Int))), (1, (2, ((a1 : Nat) : Int))), (2, (2, ((a2 : Nat) : Int))), (4, (2, ((a4 : Nat) : Int)))]) z_m4 d_Se_run_146 (Nat.le_of_ble_eq_true rfl) rfl ?_
  refine k_goto (pc := 149) (tgt := 28) d_Se_run_149 rfl ?_
  refine k_sub [1, 2, 3, 4, 0] rfl ?_
  exact k28 a0 a1 a2 a4 (zw (a5 + 1)) h1 _ hf
theorem b_Se_run_124 (c28 : Nat → Nat → Nat → Nat → Int → zH → Option (zH)) (k28 : ∀ (x0 : Nat) (x1 : Nat) (x2 : Nat) (x4 : Nat) (x5 : Int) (g : zH) (r : zH), c28 x0 x1 x2 x4 x5 g = some r → zK m_Se_run 28 [(0, (2, ((x0 : Nat) : Int))), (1, (2, ((x1 : Nat) : Int))), (2, (2, ((x2 : Nat) : Int))), (4, (2, ((x4 : Nat) : Int))), (5, (0, x5))] [] g (none, r)) (a0 : Nat) (a1 : Nat) (a2 : Nat) (a4 : Nat) (a5 : Int) (s0 : Nat) (s1 : Int) (h : zH) (r : zH) (hf : f_Se_run_124 c28 a0 a1 a2 a4 a5 s0 s1 h = some r) : zK m_Se_run 124 [(0, (2, ((a0 : Nat) : Int))), (1, (2, ((a1 : Nat) : Int))), (2, (2, ((a2 : Nat) : Int))), (4, (2, ((a4 : Nat) : Int))), (5, (0, a5))] [(0, s1), (2, ((s0 : Nat) : Int))] h (none, r) := by
  unfold f_Se_run_124 at hf
  obtain ⟨h2, e_h2, hf⟩ := z_bd hf
  refine k_putI (pc := 124) d_Se_run_124 fd_Se_27 (fun q => by cases q) rfl e_h2 ?_
  refine k_aload_n (pc := 127) rfl z_m0 d_Se_run_127 ?_
  refine k_aload_n (pc := 128) rfl z_m0 d_Se_run_128 ?_
  obtain ⟨v3, e_v3, hf⟩ := z_bd hf
  refine k_getI (pc := 129) d_Se_run_129 fd_Se_40 rfl e_v3 ?_
  rcases z_it hf with ⟨w5, hf⟩ | ⟨w5, hf⟩
  · refine k_if_eq_t (pc := 132) (tgt := 142) w5 d_Se_run_132 rfl ?_
    refine k_iconst (pc := 142) (zi_lit rfl) d_Se_run_142 ?_
    exact b_Se_run_143 c28 k28 a0 a1 a2 a4 a5 a0 (-1) h2 _ hf
  · refine k_if_eq_f (pc := 132) (tgt := 142) w5 d_Se_run_132 rfl ?_
    refine k_aload_n (pc := 135) rfl z_m0 d_Se_run_135 ?_
    obtain ⟨v4, e_v4, hf⟩ := z_bd hf
    refine k_getI (pc := 136) d_Se_run_136 fd_Se_60 rfl e_v4 ?_
    refine k_goto (pc := 139) (tgt := 143) d_Se_run_139 rfl ?_
    exact b_Se_run_143 c28 k28 a0 a1 a2 a4 a5 a0 v4 h2 _ hf
theorem b_Se_run_110 (c28 : Nat → Nat → Nat → Nat → Int → zH → Option (zH)) (k28 : ∀ (x0 : Nat) (x1 : Nat) (x2 : Nat) (x4 : Nat) (x5 : Int) (g : zH) (r : zH), c28 x0 x1 x2 x4 x5 g = some r → zK m_Se_run 28 [(0, (2, ((x0 : Nat) : Int))), (1, (2, ((x1 : Nat) : Int))), (2, (2, ((x2 : Nat) : Int))), (4, (2, ((x4 : Nat) : Int))), (5, (0, x5))] [] g (none, r)) (a0 : Nat) (a1 : Nat) (a2 : Nat) (a4 : Nat) (a5 : Int) (h : zH) (r : zH) (hf : f_Se_run_110 c28 a0 a1 a2 a4 a5 h = some r) : zK m_Se_run 110 [(0, (2, ((a0 : Nat) : Int))), (1, (2, ((a1 : Nat) : Int))), (2, (2, ((a2 : Nat) : Int))), (4, (2, ((a4 : Nat) : Int))), (5, (0, a5))] [] h (none, r) := by
  unfold f_Se_run_110 at hf
  refine k_aload_n (pc := 110) rfl z_m0 d_Se_run_110 ?_
  refine k_aload_n (pc := 111) rfl z_m0 d_Se_run_111 ?_
  obtain ⟨v6, e_v6, hf⟩ := z_bd hf
  refine k_getI (pc := 112) d_Se_run_112 fd_Se_40 rfl e_v6 ?_
  rcases z_it hf with ⟨w7, hf⟩ | ⟨w7, hf⟩
  · refine k_if_eq_t (pc := 115) (tgt := 123) w7 d_Se_run_115 rfl ?_
    refine k_iconst (pc := 123) (zi_lit rfl) d_Se_run_123 ?_
    exact b_Se_run_124 c28 k28 a0 a1 a2 a4 a5 a0 (-1) h _ hf
  · refine k_if_eq_f (pc := 115) (tgt := 123) w7 d_Se_run_115 rfl ?_
    refine k_iload (pc := 118) z_m4 d_Se_run_118 ?_
    refine k_goto (pc := 120) (tgt := 124) d_Se_run_120 rfl ?_
    exact b_Se_run_124 c28 k28 a0 a1 a2 a4 a5 a0 a5 h _ hf
theorem b_Se_run_81 (c28 : Nat → Nat → Nat → Nat → Int → zH → Option (zH)) (k28 : ∀ (x0 : Nat) (x1 : Nat) (x2 : Nat) (x4 : Nat) (x5 : Int) (g : zH) (r : zH), c28 x0 x1 x2 x4 x5 g = some r → zK m_Se_run 28 [(0, (2, ((x0 : Nat) : Int))), (1, (2, ((x1 : Nat) : Int))), (2, (2, ((x2 : Nat) : Int))), (4, (2, ((x4 : Nat) : Int))), (5, (0, x5))] [] g (none, r)) : ∀ (n : Nat) (a0 : Nat) (a1 : Nat) (a2 : Nat) (a4 : Nat) (a5 : Int) (a6 : Int) (a7 : Int) (h : zH) (r : zH), f_Se_run_81 c28 n a0 a1 a2 a4 a5 a6 a7 h = some r → zK m_Se_run 81 [(0, (2, ((a0 : Nat) : Int))), (1, (2, ((a1 : Nat) : Int))), (2, (2, ((a2 : Nat) : Int))), (4, (2, ((a4 : Nat) : Int))), (5, (0, a5)), (6, (0, a6)), (7, (0, a7))] [] h (none, r) := by
  intro n
  induction n with
  | zero =>
    intro a0 a1 a2 a4 a5 a6 a7 h r hf
    cases hf
  | succ n ih =>
    intro a0 a1 a2 a4 a5 a6 a7 h r hf
    unfold f_Se_run_81 at hf
    refine k_iload (pc := 81) z_m6 d_Se_run_81 ?_
    refine k_sipush (pc := 83) (zi_lit rfl) (by decide) d_Se_run_83 ?_
    rcases z_it hf with ⟨w11, hf⟩ | ⟨w11, hf⟩
    · refine k_ic_ge_t (pc := 86) (tgt := 110) w11 d_Se_run_86 rfl ?_
      refine k_sub [0, 1, 2, 3, 4] rfl ?_
      exact b_Se_run_110 c28 k28 a0 a1 a2 a4 a5 h _ hf
    · refine k_ic_ge_f (pc := 86) (tgt := 110) w11 d_Se_run_86 rfl ?_
      refine k_iload (pc := 89) z_m5 d_Se_run_89 ?_
      rcases z_it hf with ⟨w10, hf⟩ | ⟨w10, hf⟩
      · refine k_if_eq_t (pc := 91) (tgt := 110) w10 d_Se_run_91 rfl ?_
        refine k_sub [0, 1, 2, 3, 4] rfl ?_
        exact b_Se_run_110 c28 k28 a0 a1 a2 a4 a5 h _ hf
      · refine k_if_eq_f (pc := 91) (tgt := 110) w10 d_Se_run_91 rfl ?_
        refine k_aload_n (pc := 94) rfl z_m0 d_Se_run_94 ?_
        refine k_aload_n (pc := 95) rfl z_m1 d_Se_run_95 ?_
        refine k_aload_n (pc := 96) rfl z_m2 d_Se_run_96 ?_
        refine k_aload (pc := 97) z_m3 d_Se_run_97 ?_
        obtain ⟨n8, e_n8, hf⟩ := z_bd hf
        obtain ⟨q9, e_q9, hf⟩ := z_bd hf
        refine k_callVi (pc := 99) (as := [(2, ((a1 : Nat) : Int)), (2, ((a2 : Nat) : Int)), (2, ((a4 : Nat) : Int))]) (rest := []) d_Se_run_99 cw_Se_run_63 rfl (Nat.le_of_ble_eq_true rfl) (z_ck_of e_n8) (t_Se_doNext e_q9) ?_
        refine k_istore (pc := 102) (L' := [(6, (0, q9.1)), (0, (2, ((a0 : Nat) : Int))), (1, (2, ((a1 : Nat) : Int))), (2, (2, ((a2 : Nat) : Int))), (4, (2, ((a4 : Nat) : Int))), (5, (0, a5)), (7, (0, a7))]) d_Se_run_102 (Nat.le_of_ble_eq_true rfl) rfl ?_
        refine k_iinc (pc := 104) (L' := [(7, (0, zw (a7 + 1))), (6, (0, q9.1)), (0, (2, ((a0 : Nat) : Int))), (1, (2, ((a1 : Nat) : Int))), (2, (2, ((a2 : Nat) : Int))), (4, (2, ((a4 : Nat) : Int))), (5, (0, a5))]) z_m6 d_Se_run_104 (Nat.le_of_ble_eq_true rfl) rfl ?_
        refine k_goto (pc := 107) (tgt := 81) d_Se_run_107 rfl ?_
        refine k_sub [2, 3, 4, 5, 6, 1, 0] rfl ?_
        exact ih a0 a1 a2 a4 a5 q9.1 (zw (a7 + 1)) q9.2 _ hf
theorem b_Se_run_28 : ∀ (n : Nat) (a0 : Nat) (a1 : Nat) (a2 : Nat) (a4 : Nat) (a5 : Int) (h : zH) (r : zH), f_Se_run_28 n a0 a1 a2 a4 a5 h = some r → zK m_Se_run 28 [(0, (2, ((a0 : Nat) : Int))), (1, (2, ((a1 : Nat) : Int))), (2, (2, ((a2 : Nat) : Int))), (4, (2, ((a4 : Nat) : Int))), (5, (0, a5))] [] h (none, r) := by
  intro n
  induction n with
  | zero =>
    intro a0 a1 a2 a4 a5 h r hf
    cases hf
  | succ n ih =>
    intro a0 a1 a2 a4 a5 h r hf
    unfold f_Se_run_28 at hf
    refine k_iload (pc := 28) z_m4 d_Se_run_28 ?_
    refine k_aload_n (pc := 30) rfl z_m2 d_Se_run_30 ?_
    obtain ⟨v12, e_v12, hf⟩ := z_bd hf
    refine k_getI (pc := 31) d_Se_run_31 fd_Se_43 rfl e_v12 ?_
    rcases z_it hf with ⟨w22, hf⟩ | ⟨w22, hf⟩
    · refine k_ic_gt_t (pc := 34) (tgt := 152) w22 d_Se_run_34 rfl ?_
      cases hf
      exact k_ret (pc := 152) d_Se_run_152 rfl
    · refine k_ic_gt_f (pc := 34) (tgt := 152) w22 d_Se_run_34 rfl ?_
      refine k_aload_n (pc := 37) rfl z_m0 d_Se_run_37 ?_
      obtain ⟨v13, e_v13, hf⟩ := z_bd hf
      refine k_getI (pc := 38) d_Se_run_38 fd_Se_40 rfl e_v13 ?_
      rcases z_it hf with ⟨w21, hf⟩ | ⟨w21, hf⟩
      · refine k_if_ne_f (pc := 41) (tgt := 152) w21 d_Se_run_41 rfl ?_
        refine k_aload_n (pc := 44) rfl z_m0 d_Se_run_44 ?_
        obtain ⟨v14, e_v14, hf⟩ := z_bd hf
        refine k_getI (pc := 45) d_Se_run_45 fd_Se_36 rfl e_v14 ?_
        rcases z_it hf with ⟨w20, hf⟩ | ⟨w20, hf⟩
        · refine k_if_ne_f (pc := 48) (tgt := 152) w20 d_Se_run_48 rfl ?_
          refine k_aload_n (pc := 51) rfl z_m0 d_Se_run_51 ?_
          obtain ⟨v15, e_v15, hf⟩ := z_bd hf
          refine k_getR (pc := 52) d_Se_run_52 fd_Se_11 rfl e_v15 ?_
          refine k_iconst (pc := 55) (zi_lit rfl) d_Se_run_55 ?_
          obtain ⟨h16, e_h16, hf⟩ := z_bd hf
          refine k_callSv (pc := 56) (as := [(2, ((v15 : Nat) : Int)), (0, (-1))]) (rest := []) d_Se_run_56 cw_Se_run_48 rfl (Nat.le_of_ble_eq_true rfl) (t_Ar_fill e_h16) ?_
          refine k_aload_n (pc := 59) rfl z_m0 d_Se_run_59 ?_
          refine k_iconst (pc := 60) (zi_lit rfl) d_Se_run_60 ?_
          obtain ⟨h17, e_h17, hf⟩ := z_bd hf
          refine k_putI (pc := 61) d_Se_run_61 fd_Se_54 (fun q => by cases q) rfl e_h17 ?_
          refine k_aload_n (pc := 64) rfl z_m0 d_Se_run_64 ?_
          refine k_iconst (pc := 65) (zi_lit rfl) d_Se_run_65 ?_
          obtain ⟨h18, e_h18, hf⟩ := z_bd hf
          refine k_putI (pc := 66) d_Se_run_66 fd_Se_57 (fun q => by cases q) rfl e_h18 ?_
          refine k_aload_n (pc := 69) rfl z_m0 d_Se_run_69 ?_
          refine k_iload (pc := 70) z_m4 d_Se_run_70 ?_
          obtain ⟨h19, e_h19, hf⟩ := z_bd hf
          refine k_putI (pc := 72) d_Se_run_72 fd_Se_60 (fun q => by cases q) rfl e_h19 ?_
          refine k_iconst (pc := 75) (zi_lit rfl) d_Se_run_75 ?_
          refine k_istore (pc := 76) (L' := [(6, (0, 1)), (0, (2, ((a0 : Nat) : Int))), (1, (2, ((a1 : Nat) : Int))), (2, (2, ((a2 : Nat) : Int))), (4, (2, ((a4 : Nat) : Int))), (5, (0, a5))]) d_Se_run_76 (Nat.le_of_ble_eq_true rfl) rfl ?_
          refine k_iconst (pc := 78) (zi_lit rfl) d_Se_run_78 ?_
          refine k_istore (pc := 79) (L' := [(7, (0, 0)), (6, (0, 1)), (0, (2, ((a0 : Nat) : Int))), (1, (2, ((a1 : Nat) : Int))), (2, (2, ((a2 : Nat) : Int))), (4, (2, ((a4 : Nat) : Int))), (5, (0, a5))]) d_Se_run_79 (Nat.le_of_ble_eq_true rfl) rfl ?_
          refine k_sub [2, 3, 4, 5, 6, 1, 0] rfl ?_
          exact b_Se_run_81 (f_Se_run_28 n) ih 100000 a0 a1 a2 a4 a5 1 0 h19 _ hf
        · refine k_if_ne_t (pc := 48) (tgt := 152) w20 d_Se_run_48 rfl ?_
          cases hf
          exact k_ret (pc := 152) d_Se_run_152 rfl
      · refine k_if_ne_t (pc := 41) (tgt := 152) w21 d_Se_run_41 rfl ?_
        cases hf
        exact k_ret (pc := 152) d_Se_run_152 rfl
theorem b_Se_run_0 (a0 : Nat) (a1 : Nat) (a2 : Nat) (a3 : Int) (a4 : Nat) (h : zH) (r : zH) (hf : f_Se_run a0 a1 a2 a3 a4 h = some r) : zK m_Se_run 0 [(0, (2, ((a0 : Nat) : Int))), (1, (2, ((a1 : Nat) : Int))), (2, (2, ((a2 : Nat) : Int))), (3, (0, a3)), (4, (2, ((a4 : Nat) : Int)))] [] h (none, r) := by
  unfold f_Se_run at hf
  refine k_aload_n (pc := 0) rfl z_m0 d_Se_run_0 ?_
  refine k_iconst (pc := 1) (zi_lit rfl) d_Se_run_1 ?_
  obtain ⟨h23, e_h23, hf⟩ := z_bd hf
  refine k_putI (pc := 2) d_Se_run_2 fd_Se_27 (fun q => by cases q) rfl e_h23 ?_
  refine k_aload_n (pc := 5) rfl z_m0 d_Se_run_5 ?_
  refine k_iconst (pc := 6) (zi_lit rfl) d_Se_run_6 ?_
  obtain ⟨h24, e_h24, hf⟩ := z_bd hf
  refine k_putI (pc := 7) d_Se_run_7 fd_Se_30 (fun q => by cases q) rfl e_h24 ?_
  refine k_aload_n (pc := 10) rfl z_m0 d_Se_run_10 ?_
  refine k_iconst (pc := 11) (zi_lit rfl) d_Se_run_11 ?_
  obtain ⟨h25, e_h25, hf⟩ := z_bd hf
  refine k_putI (pc := 12) d_Se_run_12 fd_Se_33 (fun q => by cases q) rfl e_h25 ?_
  refine k_aload_n (pc := 15) rfl z_m0 d_Se_run_15 ?_
  refine k_iconst (pc := 16) (zi_lit rfl) d_Se_run_16 ?_
  obtain ⟨h26, e_h26, hf⟩ := z_bd hf
  refine k_putZ (pc := 17) d_Se_run_17 fd_Se_36 (fun q => by cases q) rfl e_h26 ?_
  refine k_aload_n (pc := 20) rfl z_m0 d_Se_run_20 ?_
  refine k_iconst (pc := 21) (zi_lit rfl) d_Se_run_21 ?_
  obtain ⟨h27, e_h27, hf⟩ := z_bd hf
  refine k_putZ (pc := 22) d_Se_run_22 fd_Se_40 (fun q => by cases q) rfl e_h27 ?_
  refine k_iload_n (pc := 25) rfl z_m3 d_Se_run_25 ?_
  refine k_istore (pc := 26) (L' := [(5, (0, a3)), (0, (2, ((a0 : Nat) : Int))), (1, (2, ((a1 : Nat) : Int))), (2, (2, ((a2 : Nat) : Int))), (3, (0, a3)), (4, (2, ((a4 : Nat) : Int)))]) d_Se_run_26 (Nat.le_of_ble_eq_true rfl) rfl ?_
  refine k_sub [1, 2, 3, 5, 0] rfl ?_
  exact b_Se_run_28 100000 a0 a1 a2 a4 a3 h27 _ hf
theorem t_Se_run {a0 : Nat} {a1 : Nat} {a2 : Nat} {a3 : Int} {a4 : Nat} {h : zH} {r : zH} (hf : f_Se_run a0 a1 a2 a3 a4 h = some r) : zMt m_Se_run [(2, ((a0 : Nat) : Int)), (2, ((a1 : Nat) : Int)), (2, ((a2 : Nat) : Int)), (0, a3), (2, ((a4 : Nat) : Int))] h (none, r) := zMt.of (by decide) (Nat.le_of_ble_eq_true rfl) (b_Se_run_0 a0 a1 a2 a3 a4 h r hf)
theorem b_Gr_keepWinner_0 (a0 : Nat) (a1 : Int) (h : zH) (r : zH) (hf : f_Gr_keepWinner a0 a1 h = some r) : zK m_Gr_keepWinner 0 [(0, (2, ((a0 : Nat) : Int))), (1, (0, a1))] [] h (none, r) := by
  unfold f_Gr_keepWinner at hf
  refine k_aload_n (pc := 0) rfl z_m0 d_Gr_keepWinner_0 ?_
  refine k_iload_n (pc := 1) rfl z_m1 d_Gr_keepWinner_1 ?_
  obtain ⟨h1, e_h1, hf⟩ := z_bd hf
  refine k_putI (pc := 2) d_Gr_keepWinner_2 fd_Gr_110 (fun q => by cases q) rfl e_h1 ?_
  refine k_aload_n (pc := 5) rfl z_m0 d_Gr_keepWinner_5 ?_
  refine k_aload_n (pc := 6) rfl z_m0 d_Gr_keepWinner_6 ?_
  obtain ⟨v2, e_v2, hf⟩ := z_bd hf
  refine k_getR (pc := 7) d_Gr_keepWinner_7 fd_Gr_36 rfl e_v2 ?_
  obtain ⟨v3, e_v3, hf⟩ := z_bd hf
  refine k_getI (pc := 10) d_Gr_keepWinner_10 fd_Gr_129 rfl e_v3 ?_
  obtain ⟨h4, e_h4, hf⟩ := z_bd hf
  refine k_putI (pc := 13) d_Gr_keepWinner_13 fd_Gr_90 (fun q => by cases q) rfl e_h4 ?_
  refine k_aload_n (pc := 16) rfl z_m0 d_Gr_keepWinner_16 ?_
  refine k_aload_n (pc := 17) rfl z_m0 d_Gr_keepWinner_17 ?_
  obtain ⟨v5, e_v5, hf⟩ := z_bd hf
  refine k_getR (pc := 18) d_Gr_keepWinner_18 fd_Gr_36 rfl e_v5 ?_
  obtain ⟨v6, e_v6, hf⟩ := z_bd hf
  refine k_getI (pc := 21) d_Gr_keepWinner_21 fd_Gr_141 rfl e_v6 ?_
  obtain ⟨h7, e_h7, hf⟩ := z_bd hf
  refine k_putI (pc := 24) d_Gr_keepWinner_24 fd_Gr_97 (fun q => by cases q) rfl e_h7 ?_
  refine k_aload_n (pc := 27) rfl z_m0 d_Gr_keepWinner_27 ?_
  obtain ⟨v8, e_v8, hf⟩ := z_bd hf
  refine k_getR (pc := 28) d_Gr_keepWinner_28 fd_Gr_36 rfl e_v8 ?_
  obtain ⟨v9, e_v9, hf⟩ := z_bd hf
  refine k_getR (pc := 31) d_Gr_keepWinner_31 fd_Gr_143 rfl e_v9 ?_
  refine k_iconst (pc := 34) (zi_lit rfl) d_Gr_keepWinner_34 ?_
  refine k_aload_n (pc := 35) rfl z_m0 d_Gr_keepWinner_35 ?_
  obtain ⟨v10, e_v10, hf⟩ := z_bd hf
  refine k_getR (pc := 36) d_Gr_keepWinner_36 fd_Gr_28 rfl e_v10 ?_
  refine k_iconst (pc := 39) (zi_lit rfl) d_Gr_keepWinner_39 ?_
  refine k_aload_n (pc := 40) rfl z_m0 d_Gr_keepWinner_40 ?_
  obtain ⟨v11, e_v11, hf⟩ := z_bd hf
  refine k_getR (pc := 41) d_Gr_keepWinner_41 fd_Gr_28 rfl e_v11 ?_
  obtain ⟨v12, e_v12, hf⟩ := z_bd hf
  refine k_alen (pc := 44) (by decide) d_Gr_keepWinner_44 e_v12 ?_
  obtain ⟨h13, e_h13, hf⟩ := z_bd hf
  refine k_copy (pc := 45) (Or.inl ⟨rfl, rfl⟩) d_Gr_keepWinner_45 w_Gr_146 w_cp1 w_cp2 w_sys (by decide) (Nat.le_of_ble_eq_true rfl) e_h13 ?_
  cases hf
  exact k_ret (pc := 48) d_Gr_keepWinner_48 rfl
theorem t_Gr_keepWinner {a0 : Nat} {a1 : Int} {h : zH} {r : zH} (hf : f_Gr_keepWinner a0 a1 h = some r) : zMt m_Gr_keepWinner [(2, ((a0 : Nat) : Int)), (0, a1)] h (none, r) := zMt.of (by decide) (Nat.le_of_ble_eq_true rfl) (b_Gr_keepWinner_0 a0 a1 h r hf)
theorem b_Gr_findWinner_133 (c25 : Nat → Nat → Int → Nat → Int → zH → Option (Int × zH)) (k25 : ∀ (x0 : Nat) (x1 : Nat) (x2 : Int) (x3 : Nat) (x4 : Int) (g : zH) (r : Int × zH), c25 x0 x1 x2 x3 x4 g = some r → zK m_Gr_findWinner 25 [(0, (2, ((x0 : Nat) : Int))), (1, (2, ((x1 : Nat) : Int))), (2, (0, x2)), (3, (2, ((x3 : Nat) : Int))), (4, (0, x4))] [] g (some (0, r.1), r.2)) (a0 : Nat) (a1 : Nat) (a2 : Int) (a3 : Nat) (a4 : Int) (h : zH) (r : Int × zH) (hf : f_Gr_findWinner_133 c25 a0 a1 a2 a3 a4 h = some r) : zK m_Gr_findWinner 133 [(0, (2, ((a0 : Nat) : Int))), (1, (2, ((a1 : Nat) : Int))), (2, (0, a2)), (3, (2, ((a3 : Nat) : Int))), (4, (0, a4))] [] h (some (0, r.1), r.2) := by
  unfold f_Gr_findWinner_133 at hf
  refine k_iinc (pc := 133) (L' := [(4, (0, zw (a4 + 1))), (0, (2, ((a0 : Nat) : Int))), (1, (2, ((a1 : Nat) : Int))), (2, (0, a2)), (3, (2, ((a3 : Nat) : Int)))]) z_m4 d_Gr_findWinner_133 (Nat.le_of_ble_eq_true rfl) rfl ?_
  refine k_goto (pc := 136) (tgt := 25) d_Gr_findWinner_136 rfl ?_
  refine k_sub [1, 2, 3, 4, 0] rfl ?_
  exact k25 a0 a1 a2 a3 (zw (a4 + 1)) h _ hf
theorem b_Gr_findWinner_127 (c25 : Nat → Nat → Int → Nat → Int → zH → Option (Int × zH)) (k25 : ∀ (x0 : Nat) (x1 : Nat) (x2 : Int) (x3 : Nat) (x4 : Int) (g : zH) (r : Int × zH), c25 x0 x1 x2 x3 x4 g = some r → zK m_Gr_findWinner 25 [(0, (2, ((x0 : Nat) : Int))), (1, (2, ((x1 : Nat) : Int))), (2, (0, x2)), (3, (2, ((x3 : Nat) : Int))), (4, (0, x4))] [] g (some (0, r.1), r.2)) (a0 : Nat) (a1 : Nat) (a2 : Int) (a3 : Nat) (a4 : Int) (a5 : Int) (h : zH) (r : Int × zH) (hf : f_Gr_findWinner_127 c25 a0 a1 a2 a3 a4 a5 h = some r) : zK m_Gr_findWinner 127 [(0, (2, ((a0 : Nat) : Int))), (1, (2, ((a1 : Nat) : Int))), (2, (0, a2)), (3, (2, ((a3 : Nat) : Int))), (4, (0, a4)), (5, (0, a5))] [] h (some (0, r.1), r.2) := by
  unfold f_Gr_findWinner_127 at hf
  refine k_aload_n (pc := 127) rfl z_m0 d_Gr_findWinner_127 ?_
  refine k_iload (pc := 128) z_m5 d_Gr_findWinner_128 ?_
  obtain ⟨n1, e_n1, hf⟩ := z_bd hf
  obtain ⟨h2, e_h2, hf⟩ := z_bd hf
  refine k_callVv (pc := 130) (as := [(0, a5)]) (rest := []) d_Gr_findWinner_130 cw_Gr_findWinner_132 rfl (Nat.le_of_ble_eq_true rfl) (z_ck_of e_n1) (t_Gr_keepWinner e_h2) ?_
  refine k_sub [0, 1, 2, 3, 4] rfl ?_
  exact b_Gr_findWinner_133 c25 k25 a0 a1 a2 a3 a4 h2 _ hf
theorem b_Gr_findWinner_65 (c25 : Nat → Nat → Int → Nat → Int → zH → Option (Int × zH)) (k25 : ∀ (x0 : Nat) (x1 : Nat) (x2 : Int) (x3 : Nat) (x4 : Int) (g : zH) (r : Int × zH), c25 x0 x1 x2 x3 x4 g = some r → zK m_Gr_findWinner 25 [(0, (2, ((x0 : Nat) : Int))), (1, (2, ((x1 : Nat) : Int))), (2, (0, x2)), (3, (2, ((x3 : Nat) : Int))), (4, (0, x4))] [] g (some (0, r.1), r.2)) (a0 : Nat) (a1 : Nat) (a2 : Int) (a3 : Nat) (a4 : Int) (a5 : Int) (s0 : Nat) (h : zH) (r : Int × zH) (hf : f_Gr_findWinner_65 c25 a0 a1 a2 a3 a4 a5 s0 h = some r) : zK m_Gr_findWinner 65 [(0, (2, ((a0 : Nat) : Int))), (1, (2, ((a1 : Nat) : Int))), (2, (0, a2)), (3, (2, ((a3 : Nat) : Int))), (4, (0, a4)), (5, (0, a5))] [(2, ((s0 : Nat) : Int))] h (some (0, r.1), r.2) := by
  unfold f_Gr_findWinner_65 at hf
  refine k_astore (pc := 65) (L' := [(6, (2, ((s0 : Nat) : Int))), (0, (2, ((a0 : Nat) : Int))), (1, (2, ((a1 : Nat) : Int))), (2, (0, a2)), (3, (2, ((a3 : Nat) : Int))), (4, (0, a4)), (5, (0, a5))]) d_Gr_findWinner_65 (Nat.le_of_ble_eq_true rfl) rfl ?_
  refine k_aload_n (pc := 67) rfl z_m1 d_Gr_findWinner_67 ?_
  obtain ⟨v3, e_v3, hf⟩ := z_bd hf
  refine k_getR (pc := 68) d_Gr_findWinner_68 fd_Gr_36 rfl e_v3 ?_
  refine k_aload (pc := 71) z_m0 d_Gr_findWinner_71 ?_
  refine k_aload_n (pc := 73) rfl z_m2 d_Gr_findWinner_73 ?_
  refine k_iload_n (pc := 74) rfl z_m3 d_Gr_findWinner_74 ?_
  refine k_aload_n (pc := 75) rfl z_m1 d_Gr_findWinner_75 ?_
  obtain ⟨v4, e_v4, hf⟩ := z_bd hf
  refine k_getR (pc := 76) d_Gr_findWinner_76 fd_Gr_20 rfl e_v4 ?_
  obtain ⟨n5, e_n5, hf⟩ := z_bd hf
  obtain ⟨h6, e_h6, hf⟩ := z_bd hf
  refine k_callVv (pc := 79) (as := [(2, ((s0 : Nat) : Int)), (2, ((a1 : Nat) : Int)), (0, a2), (2, ((v4 : Nat) : Int))]) (rest := []) d_Gr_findWinner_79 cw_Gr_findWinner_122 rfl (Nat.le_of_ble_eq_true rfl) (z_ck_of e_n5) (t_Se_run e_h6) ?_
  refine k_aload_n (pc := 82) rfl z_m1 d_Gr_findWinner_82 ?_
  obtain ⟨v7, e_v7, hf⟩ := z_bd hf
  refine k_getR (pc := 83) d_Gr_findWinner_83 fd_Gr_36 rfl e_v7 ?_
  obtain ⟨v8, e_v8, hf⟩ := z_bd hf
  refine k_getI (pc := 86) d_Gr_findWinner_86 fd_Gr_126 rfl e_v8 ?_
  rcases z_it hf with ⟨w18, hf⟩ | ⟨w18, hf⟩
  · refine k_if_eq_t (pc := 89) (tgt := 94) w18 d_Gr_findWinner_89 rfl ?_
    refine k_aload_n (pc := 94) rfl z_m1 d_Gr_findWinner_94 ?_
    obtain ⟨v9, e_v9, hf⟩ := z_bd hf
    refine k_getR (pc := 95) d_Gr_findWinner_95 fd_Gr_36 rfl e_v9 ?_
    obtain ⟨v10, e_v10, hf⟩ := z_bd hf
    refine k_getI (pc := 98) d_Gr_findWinner_98 fd_Gr_129 rfl e_v10 ?_
    refine k_iconst (pc := 101) (zi_lit rfl) d_Gr_findWinner_101 ?_
    rcases z_it hf with ⟨w17, hf⟩ | ⟨w17, hf⟩
    · refine k_ic_eq_t (pc := 102) (tgt := 133) w17 d_Gr_findWinner_102 rfl ?_
      refine k_sub [1, 2, 3, 4, 5] rfl ?_
      exact b_Gr_findWinner_133 c25 k25 a0 a1 a2 a3 a4 h6 _ hf
    · refine k_ic_eq_f (pc := 102) (tgt := 133) w17 d_Gr_findWinner_102 rfl ?_
      refine k_aload_n (pc := 105) rfl z_m1 d_Gr_findWinner_105 ?_
      obtain ⟨v11, e_v11, hf⟩ := z_bd hf
      refine k_getI (pc := 106) d_Gr_findWinner_106 fd_Gr_110 rfl e_v11 ?_
      refine k_iconst (pc := 109) (zi_lit rfl) d_Gr_findWinner_109 ?_
      rcases z_it hf with ⟨w16, hf⟩ | ⟨w16, hf⟩
      · refine k_ic_eq_t (pc := 110) (tgt := 127) w16 d_Gr_findWinner_110 rfl ?_
        refine k_sub [1, 2, 3, 4, 5, 6] rfl ?_
        exact b_Gr_findWinner_127 c25 k25 a0 a1 a2 a3 a4 a5 h6 _ hf
      · refine k_ic_eq_f (pc := 110) (tgt := 127) w16 d_Gr_findWinner_110 rfl ?_
        refine k_aload_n (pc := 113) rfl z_m1 d_Gr_findWinner_113 ?_
        obtain ⟨v12, e_v12, hf⟩ := z_bd hf
        refine k_getR (pc := 114) d_Gr_findWinner_114 fd_Gr_36 rfl e_v12 ?_
        obtain ⟨v13, e_v13, hf⟩ := z_bd hf
        refine k_getI (pc := 117) d_Gr_findWinner_117 fd_Gr_129 rfl e_v13 ?_
        refine k_aload_n (pc := 120) rfl z_m1 d_Gr_findWinner_120 ?_
        obtain ⟨v14, e_v14, hf⟩ := z_bd hf
        refine k_getI (pc := 121) d_Gr_findWinner_121 fd_Gr_90 rfl e_v14 ?_
        rcases z_it hf with ⟨w15, hf⟩ | ⟨w15, hf⟩
        · refine k_ic_ge_t (pc := 124) (tgt := 133) w15 d_Gr_findWinner_124 rfl ?_
          refine k_sub [1, 2, 3, 4, 5] rfl ?_
          exact b_Gr_findWinner_133 c25 k25 a0 a1 a2 a3 a4 h6 _ hf
        · refine k_ic_ge_f (pc := 124) (tgt := 133) w15 d_Gr_findWinner_124 rfl ?_
          refine k_sub [1, 2, 3, 4, 5, 6] rfl ?_
          exact b_Gr_findWinner_127 c25 k25 a0 a1 a2 a3 a4 a5 h6 _ hf
  · refine k_if_eq_f (pc := 89) (tgt := 94) w18 d_Gr_findWinner_89 rfl ?_
    refine k_iconst (pc := 92) (zi_lit rfl) d_Gr_findWinner_92 ?_
    cases hf
    exact k_zret (pc := 93) d_Gr_findWinner_93 rfl (Or.inl rfl)
theorem b_Gr_findWinner_25 : ∀ (n : Nat) (a0 : Nat) (a1 : Nat) (a2 : Int) (a3 : Nat) (a4 : Int) (h : zH) (r : Int × zH), f_Gr_findWinner_25 n a0 a1 a2 a3 a4 h = some r → zK m_Gr_findWinner 25 [(0, (2, ((a0 : Nat) : Int))), (1, (2, ((a1 : Nat) : Int))), (2, (0, a2)), (3, (2, ((a3 : Nat) : Int))), (4, (0, a4))] [] h (some (0, r.1), r.2) := by
  intro n
  induction n with
  | zero =>
    intro a0 a1 a2 a3 a4 h r hf
    cases hf
  | succ n ih =>
    intro a0 a1 a2 a3 a4 h r hf
    unfold f_Gr_findWinner_25 at hf
    refine k_iload (pc := 25) z_m4 d_Gr_findWinner_25 ?_
    refine k_aload_n (pc := 27) rfl z_m0 d_Gr_findWinner_27 ?_
    obtain ⟨v19, e_v19, hf⟩ := z_bd hf
    refine k_getI (pc := 28) d_Gr_findWinner_28 fd_Gr_113 rfl e_v19 ?_
    rcases z_it hf with ⟨w27, hf⟩ | ⟨w27, hf⟩
    · refine k_ic_ge_t (pc := 31) (tgt := 139) w27 d_Gr_findWinner_31 rfl ?_
      refine k_iconst (pc := 139) (zi_lit rfl) d_Gr_findWinner_139 ?_
      cases hf
      exact k_zret (pc := 140) d_Gr_findWinner_140 rfl (Or.inr rfl)
    · refine k_ic_ge_f (pc := 31) (tgt := 139) w27 d_Gr_findWinner_31 rfl ?_
      refine k_aload_n (pc := 34) rfl z_m0 d_Gr_findWinner_34 ?_
      obtain ⟨v20, e_v20, hf⟩ := z_bd hf
      refine k_getR (pc := 35) d_Gr_findWinner_35 fd_Gr_24 rfl e_v20 ?_
      refine k_iload (pc := 38) z_m4 d_Gr_findWinner_38 ?_
      obtain ⟨v21, e_v21, hf⟩ := z_bd hf
      refine k_iald (pc := 40) d_Gr_findWinner_40 e_v21 ?_
      refine k_istore (pc := 41) (L' := [(5, (0, v21)), (0, (2, ((a0 : Nat) : Int))), (1, (2, ((a1 : Nat) : Int))), (2, (0, a2)), (3, (2, ((a3 : Nat) : Int))), (4, (0, a4))]) d_Gr_findWinner_41 (Nat.le_of_ble_eq_true rfl) rfl ?_
      refine k_iload (pc := 43) z_m0 d_Gr_findWinner_43 ?_
      rcases z_it hf with ⟨w26, hf⟩ | ⟨w26, hf⟩
      · refine k_if_ne_f (pc := 45) (tgt := 55) w26 d_Gr_findWinner_45 rfl ?_
        refine k_aload_n (pc := 48) rfl z_m4 d_Gr_findWinner_48 ?_
        obtain ⟨v25, e_v25, hf⟩ := z_bd hf
        refine k_getR (pc := 49) d_Gr_findWinner_49 fd_Gr_116 rfl e_v25 ?_
        refine k_goto (pc := 52) (tgt := 65) d_Gr_findWinner_52 rfl ?_
        refine k_sub [1, 2, 3, 4, 5, 0] rfl ?_
        exact b_Gr_findWinner_65 (f_Gr_findWinner_25 n) ih a0 a1 a2 a3 a4 v21 v25 h _ hf
      · refine k_if_ne_t (pc := 45) (tgt := 55) w26 d_Gr_findWinner_45 rfl ?_
        refine k_aload_n (pc := 55) rfl z_m1 d_Gr_findWinner_55 ?_
        obtain ⟨v22, e_v22, hf⟩ := z_bd hf
        refine k_getR (pc := 56) d_Gr_findWinner_56 fd_Gr_11 rfl e_v22 ?_
        refine k_iload (pc := 59) z_m0 d_Gr_findWinner_59 ?_
        obtain ⟨v23, e_v23, hf⟩ := z_bd hf
        refine k_rald24 (pc := 61) d_Gr_findWinner_61 e_v23 ?_
        obtain ⟨v24, e_v24, hf⟩ := z_bd hf
        refine k_getR (pc := 62) d_Gr_findWinner_62 fd_Gr_119 rfl e_v24 ?_
        refine k_sub [1, 2, 3, 4, 5, 0] rfl ?_
        exact b_Gr_findWinner_65 (f_Gr_findWinner_25 n) ih a0 a1 a2 a3 a4 v21 v24 h _ hf
theorem b_Gr_findWinner_0 (a0 : Nat) (a1 : Nat) (a2 : Int) (h : zH) (r : Int × zH) (hf : f_Gr_findWinner a0 a1 a2 h = some r) : zK m_Gr_findWinner 0 [(0, (2, ((a0 : Nat) : Int))), (1, (2, ((a1 : Nat) : Int))), (2, (0, a2))] [] h (some (0, r.1), r.2) := by
  unfold f_Gr_findWinner at hf
  refine k_aload_n (pc := 0) rfl z_m0 d_Gr_findWinner_0 ?_
  obtain ⟨v28, e_v28, hf⟩ := z_bd hf
  refine k_getR (pc := 1) d_Gr_findWinner_1 fd_Gr_11 rfl e_v28 ?_
  refine k_aload_n (pc := 4) rfl z_m0 d_Gr_findWinner_4 ?_
  obtain ⟨v29, e_v29, hf⟩ := z_bd hf
  refine k_getR (pc := 5) d_Gr_findWinner_5 fd_Gr_20 rfl e_v29 ?_
  obtain ⟨n30, e_n30, hf⟩ := z_bd hf
  obtain ⟨q31, e_q31, hf⟩ := z_bd hf
  refine k_callVi (pc := 8) (as := []) (rest := [(2, ((v28 : Nat) : Int))]) d_Gr_findWinner_8 cw_Gr_findWinner_103 rfl (Nat.le_of_ble_eq_true rfl) (z_ck_of e_n30) (t_St_innermost e_q31) ?_
  obtain ⟨v32, e_v32, hf⟩ := z_bd hf
  refine k_rald24 (pc := 11) d_Gr_findWinner_11 e_v32 ?_
  refine k_astore_n (pc := 12) (L' := [(3, (2, ((v32 : Nat) : Int))), (0, (2, ((a0 : Nat) : Int))), (1, (2, ((a1 : Nat) : Int))), (2, (0, a2))]) rfl d_Gr_findWinner_12 (Nat.le_of_ble_eq_true rfl) rfl ?_
  refine k_aload_n (pc := 13) rfl z_m1 d_Gr_findWinner_13 ?_
  obtain ⟨n33, e_n33, hf⟩ := z_bd hf
  obtain ⟨h34, e_h34, hf⟩ := z_bd hf
  refine k_callVv (pc := 14) (as := []) (rest := []) d_Gr_findWinner_14 cw_Gr_findWinner_107 rfl (Nat.le_of_ble_eq_true rfl) (z_ck_of e_n33) (t_Gr_listCandidates e_h34) ?_
  refine k_aload_n (pc := 17) rfl z_m1 d_Gr_findWinner_17 ?_
  refine k_iconst (pc := 18) (zi_lit rfl) d_Gr_findWinner_18 ?_
  obtain ⟨h35, e_h35, hf⟩ := z_bd hf
  refine k_putI (pc := 19) d_Gr_findWinner_19 fd_Gr_110 (fun q => by cases q) rfl e_h35 ?_
  refine k_iconst (pc := 22) (zi_lit rfl) d_Gr_findWinner_22 ?_
  refine k_istore (pc := 23) (L' := [(4, (0, 0)), (3, (2, ((v32 : Nat) : Int))), (0, (2, ((a0 : Nat) : Int))), (1, (2, ((a1 : Nat) : Int))), (2, (0, a2))]) d_Gr_findWinner_23 (Nat.le_of_ble_eq_true rfl) rfl ?_
  refine k_sub [2, 3, 4, 1, 0] rfl ?_
  exact b_Gr_findWinner_25 100000 a0 a1 a2 v32 0 h35 _ hf
theorem t_Gr_findWinner {a0 : Nat} {a1 : Nat} {a2 : Int} {h : zH} {r : Int × zH} (hf : f_Gr_findWinner a0 a1 a2 h = some r) : zMt m_Gr_findWinner [(2, ((a0 : Nat) : Int)), (2, ((a1 : Nat) : Int)), (0, a2)] h (some (0, r.1), r.2) := zMt.of (by decide) (Nat.le_of_ble_eq_true rfl) (b_Gr_findWinner_0 a0 a1 a2 h r hf)
