/-! The bytecode comes to what the functions answer; printed by wip/gen/gen.py -/
theorem b_Li_addToken_0 (a0 : Nat) (a1 : Int) (h : zH) (r : zH) (hf : f_Li_addToken a0 a1 h = some r) : zK m_Li_addToken 0 [(0, (2, ((a0 : Nat) : Int))), (1, (0, a1))] [] h (none, r) := by
  unfold f_Li_addToken at hf
  refine k_aload_n (pc := 0) rfl z_m0 d_Li_addToken_0 ?_
  obtain ⟨v1, e_v1, hf⟩ := z_bd hf
  refine k_getR (pc := 1) d_Li_addToken_1 fd_Li_15 rfl e_v1 ?_
  refine k_aload_n (pc := 4) rfl z_m0 d_Li_addToken_4 ?_
  obtain ⟨v2, e_v2, hf⟩ := z_bd hf
  refine k_getI (pc := 5) d_Li_addToken_5 fd_Li_42 rfl e_v2 ?_
  refine k_iload_n (pc := 8) rfl z_m1 d_Li_addToken_8 ?_
  obtain ⟨h3, e_h3, hf⟩ := z_bd hf
  refine k_iast (pc := 9) d_Li_addToken_9 e_h3 ?_
  refine k_aload_n (pc := 10) rfl z_m0 d_Li_addToken_10 ?_
  obtain ⟨v4, e_v4, hf⟩ := z_bd hf
  refine k_getR (pc := 11) d_Li_addToken_11 fd_Li_19 rfl e_v4 ?_
  refine k_aload_n (pc := 14) rfl z_m0 d_Li_addToken_14 ?_
  obtain ⟨v5, e_v5, hf⟩ := z_bd hf
  refine k_getI (pc := 15) d_Li_addToken_15 fd_Li_42 rfl e_v5 ?_
  refine k_iconst (pc := 18) (zi_lit rfl) d_Li_addToken_18 ?_
  obtain ⟨h6, e_h6, hf⟩ := z_bd hf
  refine k_iast (pc := 19) d_Li_addToken_19 e_h6 ?_
  refine k_aload_n (pc := 20) rfl z_m0 d_Li_addToken_20 ?_
  refine k_dup (pc := 21) (Or.inr rfl) d_Li_addToken_21 ?_
  obtain ⟨v7, e_v7, hf⟩ := z_bd hf
  refine k_getI (pc := 22) d_Li_addToken_22 fd_Li_42 rfl e_v7 ?_
  refine k_iconst (pc := 25) (zi_lit rfl) d_Li_addToken_25 ?_
  refine k_iadd (pc := 26) d_Li_addToken_26 ?_
  obtain ⟨h8, e_h8, hf⟩ := z_bd hf
  refine k_putI (pc := 27) d_Li_addToken_27 fd_Li_42 (fun q => by cases q) rfl e_h8 ?_
  cases hf
  exact k_ret (pc := 30) d_Li_addToken_30 rfl
theorem t_Li_addToken {a0 : Nat} {a1 : Int} {h : zH} {r : zH} (hf : f_Li_addToken a0 a1 h = some r) : zMt m_Li_addToken [(2, ((a0 : Nat) : Int)), (0, a1)] h (none, r) := zMt.of (by decide) (Nat.le_of_ble_eq_true rfl) (b_Li_addToken_0 a0 a1 h r hf)
theorem b_Li_addScope_0 (a0 : Nat) (a1 : Int) (h : zH) (r : zH) (hf : f_Li_addScope a0 a1 h = some r) : zK m_Li_addScope 0 [(0, (2, ((a0 : Nat) : Int))), (1, (0, a1))] [] h (none, r) := by
  unfold f_Li_addScope at hf
  refine k_aload_n (pc := 0) rfl z_m0 d_Li_addScope_0 ?_
  obtain ⟨v1, e_v1, hf⟩ := z_bd hf
  refine k_getI (pc := 1) d_Li_addScope_1 fd_Li_42 rfl e_v1 ?_
  refine k_iconst (pc := 4) (zi_lit rfl) d_Li_addScope_4 ?_
  refine k_isub (pc := 5) d_Li_addScope_5 ?_
  refine k_istore_n (pc := 6) (L' := [(2, (0, zw (v1 - 1))), (0, (2, ((a0 : Nat) : Int))), (1, (0, a1))]) rfl d_Li_addScope_6 (Nat.le_of_ble_eq_true rfl) rfl ?_
  refine k_aload_n (pc := 7) rfl z_m1 d_Li_addScope_7 ?_
  obtain ⟨v2, e_v2, hf⟩ := z_bd hf
  refine k_getR (pc := 8) d_Li_addScope_8 fd_Li_22 rfl e_v2 ?_
  refine k_iload_n (pc := 11) rfl z_m0 d_Li_addScope_11 ?_
  refine k_bipush (pc := 12) (zi_lit rfl) (by decide) d_Li_addScope_12 ?_
  refine k_imul (pc := 14) d_Li_addScope_14 ?_
  refine k_aload_n (pc := 15) rfl z_m1 d_Li_addScope_15 ?_
  obtain ⟨v3, e_v3, hf⟩ := z_bd hf
  refine k_getR (pc := 16) d_Li_addScope_16 fd_Li_19 rfl e_v3 ?_
  refine k_iload_n (pc := 19) rfl z_m0 d_Li_addScope_19 ?_
  obtain ⟨v4, e_v4, hf⟩ := z_bd hf
  refine k_iald (pc := 20) d_Li_addScope_20 e_v4 ?_
  refine k_iadd (pc := 21) d_Li_addScope_21 ?_
  refine k_iload_n (pc := 22) rfl z_m2 d_Li_addScope_22 ?_
  obtain ⟨h5, e_h5, hf⟩ := z_bd hf
  refine k_iast (pc := 23) d_Li_addScope_23 e_h5 ?_
  refine k_aload_n (pc := 24) rfl z_m1 d_Li_addScope_24 ?_
  obtain ⟨v6, e_v6, hf⟩ := z_bd hf
  refine k_getR (pc := 25) d_Li_addScope_25 fd_Li_19 rfl e_v6 ?_
  refine k_iload_n (pc := 28) rfl z_m0 d_Li_addScope_28 ?_
  refine k_dup2 (pc := 29) (Or.inl rfl) (Or.inr rfl) d_Li_addScope_29 ?_
  obtain ⟨v7, e_v7, hf⟩ := z_bd hf
  refine k_iald (pc := 30) d_Li_addScope_30 e_v7 ?_
  refine k_iconst (pc := 31) (zi_lit rfl) d_Li_addScope_31 ?_
  refine k_iadd (pc := 32) d_Li_addScope_32 ?_
  obtain ⟨h8, e_h8, hf⟩ := z_bd hf
  refine k_iast (pc := 33) d_Li_addScope_33 e_h8 ?_
  cases hf
  exact k_ret (pc := 34) d_Li_addScope_34 rfl
theorem t_Li_addScope {a0 : Nat} {a1 : Int} {h : zH} {r : zH} (hf : f_Li_addScope a0 a1 h = some r) : zMt m_Li_addScope [(2, ((a0 : Nat) : Int)), (0, a1)] h (none, r) := zMt.of (by decide) (Nat.le_of_ble_eq_true rfl) (b_Li_addScope_0 a0 a1 h r hf)
theorem b_Gr_cut_15 : ∀ (n : Nat) (a0 : Nat) (a1 : Nat) (a4 : Int) (h : zH) (r : Int × zH), f_Gr_cut_15 n a0 a1 a4 h = some r → zK m_Gr_cut 15 [(0, (2, ((a0 : Nat) : Int))), (1, (2, ((a1 : Nat) : Int))), (4, (0, a4))] [] h (some (0, r.1), r.2) := by
  intro n
  induction n with
  | zero =>
    intro a0 a1 a4 h r hf
    cases hf
  | succ n ih =>
    intro a0 a1 a4 h r hf
    unfold f_Gr_cut_15 at hf
    refine k_iload (pc := 15) z_m2 d_Gr_cut_15 ?_
    refine k_aload_n (pc := 17) rfl z_m0 d_Gr_cut_17 ?_
    obtain ⟨v1, e_v1, hf⟩ := z_bd hf
    refine k_getR (pc := 18) d_Gr_cut_18 fd_Gr_20 rfl e_v1 ?_
    obtain ⟨v2, e_v2, hf⟩ := z_bd hf
    refine k_getI (pc := 21) d_Gr_cut_21 fd_Gr_152 rfl e_v2 ?_
    rcases z_it hf with ⟨w11, hf⟩ | ⟨w11, hf⟩
    · refine k_ic_ge_t (pc := 24) (tgt := 55) w11 d_Gr_cut_24 rfl ?_
      refine k_iconst (pc := 55) (zi_lit rfl) d_Gr_cut_55 ?_
      cases hf
      exact k_zret (pc := 56) d_Gr_cut_56 rfl (Or.inr rfl)
    · refine k_ic_ge_f (pc := 24) (tgt := 55) w11 d_Gr_cut_24 rfl ?_
      refine k_aload_n (pc := 27) rfl z_m1 d_Gr_cut_27 ?_
      refine k_aload_n (pc := 28) rfl z_m0 d_Gr_cut_28 ?_
      obtain ⟨v3, e_v3, hf⟩ := z_bd hf
      refine k_getR (pc := 29) d_Gr_cut_29 fd_Gr_11 rfl e_v3 ?_
      refine k_aload_n (pc := 32) rfl z_m0 d_Gr_cut_32 ?_
      obtain ⟨v4, e_v4, hf⟩ := z_bd hf
      refine k_getR (pc := 33) d_Gr_cut_33 fd_Gr_20 rfl e_v4 ?_
      obtain ⟨v5, e_v5, hf⟩ := z_bd hf
      refine k_getR (pc := 36) d_Gr_cut_36 fd_Gr_168 rfl e_v5 ?_
      refine k_iload (pc := 39) z_m2 d_Gr_cut_39 ?_
      obtain ⟨v6, e_v6, hf⟩ := z_bd hf
      refine k_iald (pc := 41) d_Gr_cut_41 e_v6 ?_
      obtain ⟨v7, e_v7, hf⟩ := z_bd hf
      refine k_rald24 (pc := 42) d_Gr_cut_42 e_v7 ?_
      obtain ⟨v8, e_v8, hf⟩ := z_bd hf
      refine k_getI (pc := 43) d_Gr_cut_43 fd_Gr_56 rfl e_v8 ?_
      obtain ⟨n9, e_n9, hf⟩ := z_bd hf
      obtain ⟨h10, e_h10, hf⟩ := z_bd hf
      refine k_callVv (pc := 46) (as := [(0, v8)]) (rest := []) d_Gr_cut_46 cw_Gr_cut_162 rfl (Nat.le_of_ble_eq_true rfl) (z_ck_of e_n9) (t_Li_addScope e_h10) ?_
      refine k_iinc (pc := 49) (L' := [(4, (0, zw (a4 + 1))), (0, (2, ((a0 : Nat) : Int))), (1, (2, ((a1 : Nat) : Int)))]) z_m2 d_Gr_cut_49 (Nat.le_of_ble_eq_true rfl) rfl ?_
      refine k_goto (pc := 52) (tgt := 15) d_Gr_cut_52 rfl ?_
      refine k_sub [1, 2, 0] rfl ?_
      exact ih a0 a1 (zw (a4 + 1)) h10 _ hf
theorem b_Gr_cut_0 (a0 : Nat) (a1 : Nat) (a2 : Int) (a3 : Int) (h : zH) (r : Int × zH) (hf : f_Gr_cut a0 a1 a2 a3 h = some r) : zK m_Gr_cut 0 [(0, (2, ((a0 : Nat) : Int))), (1, (2, ((a1 : Nat) : Int))), (2, (0, a2)), (3, (0, a3))] [] h (some (0, r.1), r.2) := by
  unfold f_Gr_cut at hf
  refine k_iload_n (pc := 0) rfl z_m2 d_Gr_cut_0 ?_
  refine k_iload_n (pc := 1) rfl z_m3 d_Gr_cut_1 ?_
  rcases z_it hf with ⟨w14, hf⟩ | ⟨w14, hf⟩
  · refine k_ic_ne_f (pc := 2) (tgt := 7) w14 d_Gr_cut_2 rfl ?_
    refine k_iconst (pc := 5) (zi_lit rfl) d_Gr_cut_5 ?_
    cases hf
    exact k_zret (pc := 6) d_Gr_cut_6 rfl (Or.inl rfl)
  · refine k_ic_ne_t (pc := 2) (tgt := 7) w14 d_Gr_cut_2 rfl ?_
    refine k_aload_n (pc := 7) rfl z_m1 d_Gr_cut_7 ?_
    refine k_iload_n (pc := 8) rfl z_m2 d_Gr_cut_8 ?_
    obtain ⟨n12, e_n12, hf⟩ := z_bd hf
    obtain ⟨h13, e_h13, hf⟩ := z_bd hf
    refine k_callVv (pc := 9) (as := [(0, a2)]) (rest := []) d_Gr_cut_9 cw_Gr_cut_165 rfl (Nat.le_of_ble_eq_true rfl) (z_ck_of e_n12) (t_Li_addToken e_h13) ?_
    refine k_iconst (pc := 12) (zi_lit rfl) d_Gr_cut_12 ?_
    refine k_istore (pc := 13) (L' := [(4, (0, 0)), (0, (2, ((a0 : Nat) : Int))), (1, (2, ((a1 : Nat) : Int))), (2, (0, a2)), (3, (0, a3))]) d_Gr_cut_13 (Nat.le_of_ble_eq_true rfl) rfl ?_
    refine k_sub [1, 2, 0] rfl ?_
    exact b_Gr_cut_15 100000 a0 a1 0 h13 _ hf
theorem t_Gr_cut {a0 : Nat} {a1 : Nat} {a2 : Int} {a3 : Int} {h : zH} {r : Int × zH} (hf : f_Gr_cut a0 a1 a2 a3 h = some r) : zMt m_Gr_cut [(2, ((a0 : Nat) : Int)), (2, ((a1 : Nat) : Int)), (0, a2), (0, a3)] h (some (0, r.1), r.2) := zMt.of (by decide) (Nat.le_of_ble_eq_true rfl) (b_Gr_cut_0 a0 a1 a2 a3 h r hf)
theorem b_Gr_mark_0 (a0 : Nat) (a1 : Nat) (a2 : Nat) (h : zH) (r : zH) (hf : f_Gr_mark a0 a1 a2 h = some r) : zK m_Gr_mark 0 [(0, (2, ((a0 : Nat) : Int))), (1, (2, ((a1 : Nat) : Int))), (2, (2, ((a2 : Nat) : Int)))] [] h (none, r) := by
  unfold f_Gr_mark at hf
  refine k_aload_n (pc := 0) rfl z_m0 d_Gr_mark_0 ?_
  obtain ⟨v1, e_v1, hf⟩ := z_bd hf
  refine k_getR (pc := 1) d_Gr_mark_1 fd_Gr_20 rfl e_v1 ?_
  refine k_aload_n (pc := 4) rfl z_m2 d_Gr_mark_4 ?_
  obtain ⟨n2, e_n2, hf⟩ := z_bd hf
  obtain ⟨h3, e_h3, hf⟩ := z_bd hf
  refine k_callVv (pc := 5) (as := [(2, ((a2 : Nat) : Int))]) (rest := []) d_Gr_mark_5 cw_Gr_mark_59 rfl (Nat.le_of_ble_eq_true rfl) (z_ck_of e_n2) (t_St_copy e_h3) ?_
  refine k_aload_n (pc := 8) rfl z_m1 d_Gr_mark_8 ?_
  refine k_iconst (pc := 9) (zi_lit rfl) d_Gr_mark_9 ?_
  obtain ⟨h4, e_h4, hf⟩ := z_bd hf
  refine k_putI (pc := 10) d_Gr_mark_10 fd_Gr_63 (fun q => by cases q) rfl e_h4 ?_
  refine k_aload_n (pc := 13) rfl z_m1 d_Gr_mark_13 ?_
  refine k_iconst (pc := 14) (zi_lit rfl) d_Gr_mark_14 ?_
  obtain ⟨h5, e_h5, hf⟩ := z_bd hf
  refine k_putZ (pc := 15) d_Gr_mark_15 fd_Gr_68 (fun q => by cases q) rfl e_h5 ?_
  refine k_aload_n (pc := 18) rfl z_m0 d_Gr_mark_18 ?_
  refine k_aload_n (pc := 19) rfl z_m1 d_Gr_mark_19 ?_
  refine k_iconst (pc := 20) (zi_lit rfl) d_Gr_mark_20 ?_
  refine k_aload_n (pc := 21) rfl z_m1 d_Gr_mark_21 ?_
  obtain ⟨v6, e_v6, hf⟩ := z_bd hf
  refine k_getI (pc := 22) d_Gr_mark_22 fd_Gr_83 rfl e_v6 ?_
  obtain ⟨n7, e_n7, hf⟩ := z_bd hf
  obtain ⟨q8, e_q8, hf⟩ := z_bd hf
  refine k_callVi (pc := 25) (as := [(2, ((a1 : Nat) : Int)), (0, 0), (0, v6)]) (rest := []) d_Gr_mark_25 cw_Gr_mark_86 rfl (Nat.le_of_ble_eq_true rfl) (z_ck_of e_n7) (t_Gr_cut e_q8) ?_
  refine k_pop (pc := 28) (Or.inl rfl) d_Gr_mark_28 ?_
  cases hf
  exact k_ret (pc := 29) d_Gr_mark_29 rfl
theorem t_Gr_mark {a0 : Nat} {a1 : Nat} {a2 : Nat} {h : zH} {r : zH} (hf : f_Gr_mark a0 a1 a2 h = some r) : zMt m_Gr_mark [(2, ((a0 : Nat) : Int)), (2, ((a1 : Nat) : Int)), (2, ((a2 : Nat) : Int))] h (none, r) := zMt.of (by decide) (Nat.le_of_ble_eq_true rfl) (b_Gr_mark_0 a0 a1 a2 h r hf)
theorem b_Gr_isLast_75 (h : zH) (r : Int × zH) (hf : f_Gr_isLast_75 h = some r) : zK m_Gr_isLast 75 [] [] h (some (0, r.1), r.2) := by
  unfold f_Gr_isLast_75 at hf
  refine k_iconst (pc := 75) (zi_lit rfl) d_Gr_isLast_75 ?_
  refine k_goto (pc := 76) (tgt := 80) d_Gr_isLast_76 rfl ?_
  cases hf
  exact k_zret (pc := 80) d_Gr_isLast_80 rfl (Or.inr rfl)
theorem b_Gr_isLast_71 (a3 : Int) (h : zH) (r : Int × zH) (hf : f_Gr_isLast_71 a3 h = some r) : zK m_Gr_isLast 71 [(3, (0, a3))] [] h (some (0, r.1), r.2) := by
  unfold f_Gr_isLast_71 at hf
  refine k_iload_n (pc := 71) rfl z_m0 d_Gr_isLast_71 ?_
  rcases z_it hf with ⟨w1, hf⟩ | ⟨w1, hf⟩
  · refine k_if_eq_t (pc := 72) (tgt := 79) w1 d_Gr_isLast_72 rfl ?_
    refine k_iconst (pc := 79) (zi_lit rfl) d_Gr_isLast_79 ?_
    cases hf
    exact k_zret (pc := 80) d_Gr_isLast_80 rfl (Or.inl rfl)
  · refine k_if_eq_f (pc := 72) (tgt := 79) w1 d_Gr_isLast_72 rfl ?_
    refine k_sub [] rfl ?_
    exact b_Gr_isLast_75 h _ hf
theorem b_Gr_isLast_58 (a0 : Nat) (a1 : Int) (a2 : Int) (s0 : Int) (h : zH) (r : Int × zH) (hf : f_Gr_isLast_58 a0 a1 a2 s0 h = some r) : zK m_Gr_isLast 58 [(0, (2, ((a0 : Nat) : Int))), (1, (0, a1)), (2, (0, a2))] [(0, s0)] h (some (0, r.1), r.2) := by
  unfold f_Gr_isLast_58 at hf
  refine k_istore_n (pc := 58) (L' := [(3, (0, s0)), (0, (2, ((a0 : Nat) : Int))), (1, (0, a1)), (2, (0, a2))]) rfl d_Gr_isLast_58 (Nat.le_of_ble_eq_true rfl) rfl ?_
  refine k_iload_n (pc := 59) rfl z_m3 d_Gr_isLast_59 ?_
  rcases z_it hf with ⟨w4, hf⟩ | ⟨w4, hf⟩
  · refine k_if_ne_f (pc := 60) (tgt := 71) w4 d_Gr_isLast_60 rfl ?_
    refine k_aload_n (pc := 63) rfl z_m1 d_Gr_isLast_63 ?_
    obtain ⟨v2, e_v2, hf⟩ := z_bd hf
    refine k_getI (pc := 64) d_Gr_isLast_64 fd_Gr_97 rfl e_v2 ?_
    refine k_iload_n (pc := 67) rfl z_m2 d_Gr_isLast_67 ?_
    rcases z_it hf with ⟨w3, hf⟩ | ⟨w3, hf⟩
    · refine k_ic_eq_t (pc := 68) (tgt := 75) w3 d_Gr_isLast_68 rfl ?_
      refine k_sub [] rfl ?_
      exact b_Gr_isLast_75 h _ hf
    · refine k_ic_eq_f (pc := 68) (tgt := 75) w3 d_Gr_isLast_68 rfl ?_
      refine k_sub [0] rfl ?_
      exact b_Gr_isLast_71 s0 h _ hf
  · refine k_if_ne_t (pc := 60) (tgt := 71) w4 d_Gr_isLast_60 rfl ?_
    refine k_sub [0] rfl ?_
    exact b_Gr_isLast_71 s0 h _ hf
theorem b_Gr_isLast_57 (a0 : Nat) (a1 : Int) (a2 : Int) (h : zH) (r : Int × zH) (hf : f_Gr_isLast_57 a0 a1 a2 h = some r) : zK m_Gr_isLast 57 [(0, (2, ((a0 : Nat) : Int))), (1, (0, a1)), (2, (0, a2))] [] h (some (0, r.1), r.2) := by
  unfold f_Gr_isLast_57 at hf
  refine k_iconst (pc := 57) (zi_lit rfl) d_Gr_isLast_57 ?_
  exact b_Gr_isLast_58 a0 a1 a2 0 h _ hf
theorem b_Gr_isLast_22 (a0 : Nat) (a1 : Int) (s0 : Int) (h : zH) (r : Int × zH) (hf : f_Gr_isLast_22 a0 a1 s0 h = some r) : zK m_Gr_isLast 22 [(0, (2, ((a0 : Nat) : Int))), (1, (0, a1))] [(0, s0)] h (some (0, r.1), r.2) := by
  unfold f_Gr_isLast_22 at hf
  refine k_istore_n (pc := 22) (L' := [(2, (0, s0)), (0, (2, ((a0 : Nat) : Int))), (1, (0, a1))]) rfl d_Gr_isLast_22 (Nat.le_of_ble_eq_true rfl) rfl ?_
  refine k_iload_n (pc := 23) rfl z_m0 d_Gr_isLast_23 ?_
  rcases z_it hf with ⟨w13, hf⟩ | ⟨w13, hf⟩
  · refine k_if_ne_f (pc := 24) (tgt := 57) w13 d_Gr_isLast_24 rfl ?_
    refine k_aload_n (pc := 27) rfl z_m1 d_Gr_isLast_27 ?_
    obtain ⟨v5, e_v5, hf⟩ := z_bd hf
    refine k_getR (pc := 28) d_Gr_isLast_28 fd_Gr_11 rfl e_v5 ?_
    refine k_aload_n (pc := 31) rfl z_m1 d_Gr_isLast_31 ?_
    obtain ⟨v6, e_v6, hf⟩ := z_bd hf
    refine k_getI (pc := 32) d_Gr_isLast_32 fd_Gr_110 rfl e_v6 ?_
    obtain ⟨v7, e_v7, hf⟩ := z_bd hf
    refine k_rald24 (pc := 35) d_Gr_isLast_35 e_v7 ?_
    obtain ⟨v8, e_v8, hf⟩ := z_bd hf
    refine k_getI (pc := 36) d_Gr_isLast_36 fd_Gr_41 rfl e_v8 ?_
    rcases z_it hf with ⟨w12, hf⟩ | ⟨w12, hf⟩
    · refine k_if_eq_t (pc := 39) (tgt := 57) w12 d_Gr_isLast_39 rfl ?_
      refine k_sub [1, 2, 0] rfl ?_
      exact b_Gr_isLast_57 a0 a1 s0 h _ hf
    · refine k_if_eq_f (pc := 39) (tgt := 57) w12 d_Gr_isLast_39 rfl ?_
      refine k_aload_n (pc := 42) rfl z_m1 d_Gr_isLast_42 ?_
      obtain ⟨v9, e_v9, hf⟩ := z_bd hf
      refine k_getR (pc := 43) d_Gr_isLast_43 fd_Gr_20 rfl e_v9 ?_
      obtain ⟨v10, e_v10, hf⟩ := z_bd hf
      refine k_getI (pc := 46) d_Gr_isLast_46 fd_Gr_152 rfl e_v10 ?_
      refine k_iconst (pc := 49) (zi_lit rfl) d_Gr_isLast_49 ?_
      rcases z_it hf with ⟨w11, hf⟩ | ⟨w11, hf⟩
      · refine k_ic_ne_f (pc := 50) (tgt := 57) w11 d_Gr_isLast_50 rfl ?_
        refine k_iconst (pc := 53) (zi_lit rfl) d_Gr_isLast_53 ?_
        refine k_goto (pc := 54) (tgt := 58) d_Gr_isLast_54 rfl ?_
        refine k_sub [1, 2, 0] rfl ?_
        exact b_Gr_isLast_58 a0 a1 s0 1 h _ hf
      · refine k_ic_ne_t (pc := 50) (tgt := 57) w11 d_Gr_isLast_50 rfl ?_
        refine k_sub [1, 2, 0] rfl ?_
        exact b_Gr_isLast_57 a0 a1 s0 h _ hf
  · refine k_if_ne_t (pc := 24) (tgt := 57) w13 d_Gr_isLast_24 rfl ?_
    refine k_sub [1, 2, 0] rfl ?_
    exact b_Gr_isLast_57 a0 a1 s0 h _ hf
theorem b_Gr_isLast_0 (a0 : Nat) (a1 : Int) (h : zH) (r : Int × zH) (hf : f_Gr_isLast a0 a1 h = some r) : zK m_Gr_isLast 0 [(0, (2, ((a0 : Nat) : Int))), (1, (0, a1))] [] h (some (0, r.1), r.2) := by
  unfold f_Gr_isLast at hf
  refine k_aload_n (pc := 0) rfl z_m0 d_Gr_isLast_0 ?_
  obtain ⟨v14, e_v14, hf⟩ := z_bd hf
  refine k_getI (pc := 1) d_Gr_isLast_1 fd_Gr_110 rfl e_v14 ?_
  refine k_iconst (pc := 4) (zi_lit rfl) d_Gr_isLast_4 ?_
  rcases z_it hf with ⟨w17, hf⟩ | ⟨w17, hf⟩
  · refine k_ic_ne_f (pc := 5) (tgt := 10) w17 d_Gr_isLast_5 rfl ?_
    refine k_iconst (pc := 8) (zi_lit rfl) d_Gr_isLast_8 ?_
    cases hf
    exact k_zret (pc := 9) d_Gr_isLast_9 rfl (Or.inr rfl)
  · refine k_ic_ne_t (pc := 5) (tgt := 10) w17 d_Gr_isLast_5 rfl ?_
    refine k_aload_n (pc := 10) rfl z_m0 d_Gr_isLast_10 ?_
    obtain ⟨v15, e_v15, hf⟩ := z_bd hf
    refine k_getI (pc := 11) d_Gr_isLast_11 fd_Gr_110 rfl e_v15 ?_
    rcases z_it hf with ⟨w16, hf⟩ | ⟨w16, hf⟩
    · refine k_if_ne_f (pc := 14) (tgt := 21) w16 d_Gr_isLast_14 rfl ?_
      refine k_iconst (pc := 17) (zi_lit rfl) d_Gr_isLast_17 ?_
      refine k_goto (pc := 18) (tgt := 22) d_Gr_isLast_18 rfl ?_
      exact b_Gr_isLast_22 a0 a1 1 h _ hf
    · refine k_if_ne_t (pc := 14) (tgt := 21) w16 d_Gr_isLast_14 rfl ?_
      refine k_iconst (pc := 21) (zi_lit rfl) d_Gr_isLast_21 ?_
      exact b_Gr_isLast_22 a0 a1 0 h _ hf
theorem t_Gr_isLast {a0 : Nat} {a1 : Int} {h : zH} {r : Int × zH} (hf : f_Gr_isLast a0 a1 h = some r) : zMt m_Gr_isLast [(2, ((a0 : Nat) : Int)), (0, a1)] h (some (0, r.1), r.2) := zMt.of (by decide) (Nat.le_of_ble_eq_true rfl) (b_Gr_isLast_0 a0 a1 h r hf)
theorem b_St_push_0 (a0 : Nat) (a1 : Int) (h : zH) (r : zH) (hf : f_St_push a0 a1 h = some r) : zK m_St_push 0 [(0, (2, ((a0 : Nat) : Int))), (1, (0, a1))] [] h (none, r) := by
  unfold f_St_push at hf
  refine k_aload_n (pc := 0) rfl z_m0 d_St_push_0 ?_
  obtain ⟨v1, e_v1, hf⟩ := z_bd hf
  refine k_getR (pc := 1) d_St_push_1 fd_St_9 rfl e_v1 ?_
  refine k_aload_n (pc := 4) rfl z_m0 d_St_push_4 ?_
  obtain ⟨v2, e_v2, hf⟩ := z_bd hf
  refine k_getI (pc := 5) d_St_push_5 fd_St_22 rfl e_v2 ?_
  refine k_iload_n (pc := 8) rfl z_m1 d_St_push_8 ?_
  obtain ⟨h3, e_h3, hf⟩ := z_bd hf
  refine k_iast (pc := 9) d_St_push_9 e_h3 ?_
  refine k_aload_n (pc := 10) rfl z_m0 d_St_push_10 ?_
  refine k_dup (pc := 11) (Or.inr rfl) d_St_push_11 ?_
  obtain ⟨v4, e_v4, hf⟩ := z_bd hf
  refine k_getI (pc := 12) d_St_push_12 fd_St_22 rfl e_v4 ?_
  refine k_iconst (pc := 15) (zi_lit rfl) d_St_push_15 ?_
  refine k_iadd (pc := 16) d_St_push_16 ?_
  obtain ⟨h5, e_h5, hf⟩ := z_bd hf
  refine k_putI (pc := 17) d_St_push_17 fd_St_22 (fun q => by cases q) rfl e_h5 ?_
  cases hf
  exact k_ret (pc := 20) d_St_push_20 rfl
theorem t_St_push {a0 : Nat} {a1 : Int} {h : zH} {r : zH} (hf : f_St_push a0 a1 h = some r) : zMt m_St_push [(2, ((a0 : Nat) : Int)), (0, a1)] h (none, r) := zMt.of (by decide) (Nat.le_of_ble_eq_true rfl) (b_St_push_0 a0 a1 h r hf)
theorem b_St_keepText_41 : ∀ (n : Nat) (a0 : Nat) (a2 : Nat) (a3 : Int) (a5 : Int) (a6 : Int) (a7 : Int) (h : zH) (r : zH), f_St_keepText_41 n a0 a2 a3 a5 a6 a7 h = some r → zK m_St_keepText 41 [(0, (2, ((a0 : Nat) : Int))), (2, (2, ((a2 : Nat) : Int))), (3, (0, a3)), (5, (0, a5)), (6, (0, a6)), (7, (0, a7))] [] h (none, r) := by
  intro n
  induction n with
  | zero =>
    intro a0 a2 a3 a5 a6 a7 h r hf
    cases hf
  | succ n ih =>
    intro a0 a2 a3 a5 a6 a7 h r hf
    unfold f_St_keepText_41 at hf
    refine k_iload (pc := 41) z_m5 d_St_keepText_41 ?_
    refine k_iload (pc := 43) z_m4 d_St_keepText_43 ?_
    rcases z_it hf with ⟨w5, hf⟩ | ⟨w5, hf⟩
    · refine k_ic_ge_t (pc := 45) (tgt := 76) w5 d_St_keepText_45 rfl ?_
      cases hf
      exact k_ret (pc := 76) d_St_keepText_76 rfl
    · refine k_ic_ge_f (pc := 45) (tgt := 76) w5 d_St_keepText_45 rfl ?_
      refine k_aload_n (pc := 48) rfl z_m0 d_St_keepText_48 ?_
      obtain ⟨v1, e_v1, hf⟩ := z_bd hf
      refine k_getR (pc := 49) d_St_keepText_49 fd_St_18 rfl e_v1 ?_
      refine k_iload (pc := 52) z_m3 d_St_keepText_52 ?_
      refine k_bipush (pc := 54) (zi_lit rfl) (by decide) d_St_keepText_54 ?_
      refine k_imul (pc := 56) d_St_keepText_56 ?_
      refine k_iload (pc := 57) z_m5 d_St_keepText_57 ?_
      refine k_iadd (pc := 59) d_St_keepText_59 ?_
      refine k_aload_n (pc := 60) rfl z_m1 d_St_keepText_60 ?_
      obtain ⟨v2, e_v2, hf⟩ := z_bd hf
      refine k_getR (pc := 61) d_St_keepText_61 fd_St_26 rfl e_v2 ?_
      refine k_iload_n (pc := 64) rfl z_m2 d_St_keepText_64 ?_
      refine k_iload (pc := 65) z_m5 d_St_keepText_65 ?_
      refine k_iadd (pc := 67) d_St_keepText_67 ?_
      obtain ⟨v3, e_v3, hf⟩ := z_bd hf
      refine k_cald (pc := 68) d_St_keepText_68 e_v3 ?_
      obtain ⟨h4, e_h4, hf⟩ := z_bd hf
      refine k_cast (pc := 69) d_St_keepText_69 e_h4 ?_
      refine k_iinc (pc := 70) (L' := [(7, (0, zw (a7 + 1))), (0, (2, ((a0 : Nat) : Int))), (2, (2, ((a2 : Nat) : Int))), (3, (0, a3)), (5, (0, a5)), (6, (0, a6))]) z_m5 d_St_keepText_70 (Nat.le_of_ble_eq_true rfl) rfl ?_
      refine k_goto (pc := 73) (tgt := 41) d_St_keepText_73 rfl ?_
      refine k_sub [1, 2, 3, 4, 5, 0] rfl ?_
      exact ih a0 a2 a3 a5 a6 (zw (a7 + 1)) h4 _ hf
theorem b_St_keepText_27 (a0 : Nat) (a2 : Nat) (a3 : Int) (a5 : Int) (s0 : Int) (h : zH) (r : zH) (hf : f_St_keepText_27 a0 a2 a3 a5 s0 h = some r) : zK m_St_keepText 27 [(0, (2, ((a0 : Nat) : Int))), (2, (2, ((a2 : Nat) : Int))), (3, (0, a3)), (5, (0, a5))] [(0, s0)] h (none, r) := by
  unfold f_St_keepText_27 at hf
  refine k_istore (pc := 27) (L' := [(6, (0, s0)), (0, (2, ((a0 : Nat) : Int))), (2, (2, ((a2 : Nat) : Int))), (3, (0, a3)), (5, (0, a5))]) d_St_keepText_27 (Nat.le_of_ble_eq_true rfl) rfl ?_
  refine k_aload_n (pc := 29) rfl z_m1 d_St_keepText_29 ?_
  obtain ⟨v6, e_v6, hf⟩ := z_bd hf
  refine k_getR (pc := 30) d_St_keepText_30 fd_St_15 rfl e_v6 ?_
  refine k_iload (pc := 33) z_m4 d_St_keepText_33 ?_
  refine k_iload (pc := 35) z_m0 d_St_keepText_35 ?_
  obtain ⟨h7, e_h7, hf⟩ := z_bd hf
  refine k_iast (pc := 37) d_St_keepText_37 e_h7 ?_
  refine k_iconst (pc := 38) (zi_lit rfl) d_St_keepText_38 ?_
  refine k_istore (pc := 39) (L' := [(7, (0, 0)), (6, (0, s0)), (0, (2, ((a0 : Nat) : Int))), (2, (2, ((a2 : Nat) : Int))), (3, (0, a3)), (5, (0, a5))]) d_St_keepText_39 (Nat.le_of_ble_eq_true rfl) rfl ?_
  refine k_sub [2, 3, 4, 5, 1, 0] rfl ?_
  exact b_St_keepText_41 100000 a0 a2 a3 a5 s0 0 h7 _ hf
theorem b_St_keepText_0 (a0 : Nat) (a1 : Int) (a2 : Nat) (a3 : Int) (a4 : Int) (h : zH) (r : zH) (hf : f_St_keepText a0 a1 a2 a3 a4 h = some r) : zK m_St_keepText 0 [(0, (2, ((a0 : Nat) : Int))), (1, (0, a1)), (2, (2, ((a2 : Nat) : Int))), (3, (0, a3)), (4, (0, a4))] [] h (none, r) := by
  unfold f_St_keepText at hf
  refine k_aload_n (pc := 0) rfl z_m0 d_St_keepText_0 ?_
  obtain ⟨v8, e_v8, hf⟩ := z_bd hf
  refine k_getI (pc := 1) d_St_keepText_1 fd_St_22 rfl e_v8 ?_
  refine k_iconst (pc := 4) (zi_lit rfl) d_St_keepText_4 ?_
  refine k_isub (pc := 5) d_St_keepText_5 ?_
  refine k_iconst (pc := 6) (zi_lit rfl) d_St_keepText_6 ?_
  refine k_imul (pc := 7) d_St_keepText_7 ?_
  refine k_iload_n (pc := 8) rfl z_m1 d_St_keepText_8 ?_
  refine k_iadd (pc := 9) d_St_keepText_9 ?_
  refine k_iconst (pc := 10) (zi_lit rfl) d_St_keepText_10 ?_
  refine k_isub (pc := 11) d_St_keepText_11 ?_
  refine k_istore (pc := 12) (L' := [(5, (0, zw ((zw ((zw ((zw (v8 - 1)) * 2)) + a1)) - 1))), (0, (2, ((a0 : Nat) : Int))), (1, (0, a1)), (2, (2, ((a2 : Nat) : Int))), (3, (0, a3)), (4, (0, a4))]) d_St_keepText_12 (Nat.le_of_ble_eq_true rfl) rfl ?_
  refine k_iload_n (pc := 14) rfl z_m4 d_St_keepText_14 ?_
  refine k_iconst (pc := 15) (zi_lit rfl) d_St_keepText_15 ?_
  rcases z_it hf with ⟨w9, hf⟩ | ⟨w9, hf⟩
  · refine k_ic_ne_f (pc := 16) (tgt := 23) w9 d_St_keepText_16 rfl ?_
    refine k_iconst (pc := 19) (zi_lit rfl) d_St_keepText_19 ?_
    refine k_goto (pc := 20) (tgt := 27) d_St_keepText_20 rfl ?_
    refine k_sub [1, 3, 4, 0] rfl ?_
    exact b_St_keepText_27 a0 a2 a3 (zw ((zw ((zw ((zw (v8 - 1)) * 2)) + a1)) - 1)) 0 h _ hf
  · refine k_ic_ne_t (pc := 16) (tgt := 23) w9 d_St_keepText_16 rfl ?_
    refine k_iload (pc := 23) z_m5 d_St_keepText_23 ?_
    refine k_iload_n (pc := 25) rfl z_m4 d_St_keepText_25 ?_
    refine k_isub (pc := 26) d_St_keepText_26 ?_
    refine k_sub [1, 3, 4, 0] rfl ?_
    exact b_St_keepText_27 a0 a2 a3 (zw ((zw ((zw ((zw (v8 - 1)) * 2)) + a1)) - 1)) (zw (a4 - a3)) h _ hf
theorem t_St_keepText {a0 : Nat} {a1 : Int} {a2 : Nat} {a3 : Int} {a4 : Int} {h : zH} {r : zH} (hf : f_St_keepText a0 a1 a2 a3 a4 h = some r) : zMt m_St_keepText [(2, ((a0 : Nat) : Int)), (0, a1), (2, ((a2 : Nat) : Int)), (0, a3), (0, a4)] h (none, r) := zMt.of (by decide) (Nat.le_of_ble_eq_true rfl) (b_St_keepText_0 a0 a1 a2 a3 a4 h r hf)
theorem b_Gr_takeWinner_0 (a0 : Nat) (a1 : Nat) (h : zH) (r : zH) (hf : f_Gr_takeWinner a0 a1 h = some r) : zK m_Gr_takeWinner 0 [(0, (2, ((a0 : Nat) : Int))), (1, (2, ((a1 : Nat) : Int)))] [] h (none, r) := by
  unfold f_Gr_takeWinner at hf
  refine k_aload_n (pc := 0) rfl z_m0 d_Gr_takeWinner_0 ?_
  obtain ⟨v1, e_v1, hf⟩ := z_bd hf
  refine k_getI (pc := 1) d_Gr_takeWinner_1 fd_Gr_110 rfl e_v1 ?_
  rcases z_it hf with ⟨w47, hf⟩ | ⟨w47, hf⟩
  · refine k_if_ne_f (pc := 4) (tgt := 37) w47 d_Gr_takeWinner_4 rfl ?_
    refine k_aload_n (pc := 7) rfl z_m0 d_Gr_takeWinner_7 ?_
    refine k_aload_n (pc := 8) rfl z_m1 d_Gr_takeWinner_8 ?_
    refine k_aload_n (pc := 9) rfl z_m0 d_Gr_takeWinner_9 ?_
    obtain ⟨v40, e_v40, hf⟩ := z_bd hf
    refine k_getI (pc := 10) d_Gr_takeWinner_10 fd_Gr_90 rfl e_v40 ?_
    refine k_aload_n (pc := 13) rfl z_m0 d_Gr_takeWinner_13 ?_
    obtain ⟨v41, e_v41, hf⟩ := z_bd hf
    refine k_getI (pc := 14) d_Gr_takeWinner_14 fd_Gr_97 rfl e_v41 ?_
    obtain ⟨n42, e_n42, hf⟩ := z_bd hf
    obtain ⟨q43, e_q43, hf⟩ := z_bd hf
    refine k_callVi (pc := 17) (as := [(2, ((a1 : Nat) : Int)), (0, v40), (0, v41)]) (rest := []) d_Gr_takeWinner_17 cw_Gr_takeWinner_86 rfl (Nat.le_of_ble_eq_true rfl) (z_ck_of e_n42) (t_Gr_cut e_q43) ?_
    refine k_pop (pc := 20) (Or.inl rfl) d_Gr_takeWinner_20 ?_
    refine k_aload_n (pc := 21) rfl z_m0 d_Gr_takeWinner_21 ?_
    obtain ⟨v44, e_v44, hf⟩ := z_bd hf
    refine k_getR (pc := 22) d_Gr_takeWinner_22 fd_Gr_20 rfl e_v44 ?_
    refine k_dup (pc := 25) (Or.inr rfl) d_Gr_takeWinner_25 ?_
    obtain ⟨v45, e_v45, hf⟩ := z_bd hf
    refine k_getI (pc := 26) d_Gr_takeWinner_26 fd_Gr_152 rfl e_v45 ?_
    refine k_iconst (pc := 29) (zi_lit rfl) d_Gr_takeWinner_29 ?_
    refine k_isub (pc := 30) d_Gr_takeWinner_30 ?_
    obtain ⟨h46, e_h46, hf⟩ := z_bd hf
    refine k_putI (pc := 31) d_Gr_takeWinner_31 fd_Gr_152 (fun q => by cases q) rfl e_h46 ?_
    refine k_goto (pc := 34) (tgt := 154) d_Gr_takeWinner_34 rfl ?_
    cases hf
    exact k_ret (pc := 154) d_Gr_takeWinner_154 rfl
  · refine k_if_ne_t (pc := 4) (tgt := 37) w47 d_Gr_takeWinner_4 rfl ?_
    refine k_aload_n (pc := 37) rfl z_m0 d_Gr_takeWinner_37 ?_
    obtain ⟨v2, e_v2, hf⟩ := z_bd hf
    refine k_getR (pc := 38) d_Gr_takeWinner_38 fd_Gr_11 rfl e_v2 ?_
    refine k_aload_n (pc := 41) rfl z_m0 d_Gr_takeWinner_41 ?_
    obtain ⟨v3, e_v3, hf⟩ := z_bd hf
    refine k_getI (pc := 42) d_Gr_takeWinner_42 fd_Gr_110 rfl e_v3 ?_
    obtain ⟨v4, e_v4, hf⟩ := z_bd hf
    refine k_rald24 (pc := 45) d_Gr_takeWinner_45 e_v4 ?_
    obtain ⟨v5, e_v5, hf⟩ := z_bd hf
    refine k_getI (pc := 46) d_Gr_takeWinner_46 fd_Gr_41 rfl e_v5 ?_
    rcases z_it hf with ⟨w39, hf⟩ | ⟨w39, hf⟩
    · refine k_if_eq_t (pc := 49) (tgt := 122) w39 d_Gr_takeWinner_49 rfl ?_
      refine k_aload_n (pc := 122) rfl z_m0 d_Gr_takeWinner_122 ?_
      refine k_aload_n (pc := 123) rfl z_m1 d_Gr_takeWinner_123 ?_
      refine k_aload_n (pc := 124) rfl z_m0 d_Gr_takeWinner_124 ?_
      obtain ⟨v6, e_v6, hf⟩ := z_bd hf
      refine k_getI (pc := 125) d_Gr_takeWinner_125 fd_Gr_90 rfl e_v6 ?_
      refine k_aload_n (pc := 128) rfl z_m0 d_Gr_takeWinner_128 ?_
      obtain ⟨v7, e_v7, hf⟩ := z_bd hf
      refine k_getI (pc := 129) d_Gr_takeWinner_129 fd_Gr_97 rfl e_v7 ?_
      obtain ⟨n8, e_n8, hf⟩ := z_bd hf
      obtain ⟨q9, e_q9, hf⟩ := z_bd hf
      refine k_callVi (pc := 132) (as := [(2, ((a1 : Nat) : Int)), (0, v6), (0, v7)]) (rest := []) d_Gr_takeWinner_132 cw_Gr_takeWinner_86 rfl (Nat.le_of_ble_eq_true rfl) (z_ck_of e_n8) (t_Gr_cut e_q9) ?_
      rcases z_it hf with ⟨w16, hf⟩ | ⟨w16, hf⟩
      · refine k_if_eq_t (pc := 135) (tgt := 154) w16 d_Gr_takeWinner_135 rfl ?_
        cases hf
        exact k_ret (pc := 154) d_Gr_takeWinner_154 rfl
      · refine k_if_eq_f (pc := 135) (tgt := 154) w16 d_Gr_takeWinner_135 rfl ?_
        refine k_aload_n (pc := 138) rfl z_m1 d_Gr_takeWinner_138 ?_
        refine k_aload_n (pc := 139) rfl z_m0 d_Gr_takeWinner_139 ?_
        obtain ⟨v10, e_v10, hf⟩ := z_bd hf
        refine k_getR (pc := 140) d_Gr_takeWinner_140 fd_Gr_11 rfl e_v10 ?_
        refine k_aload_n (pc := 143) rfl z_m0 d_Gr_takeWinner_143 ?_
        obtain ⟨v11, e_v11, hf⟩ := z_bd hf
        refine k_getI (pc := 144) d_Gr_takeWinner_144 fd_Gr_110 rfl e_v11 ?_
        obtain ⟨v12, e_v12, hf⟩ := z_bd hf
        refine k_rald24 (pc := 147) d_Gr_takeWinner_147 e_v12 ?_
        obtain ⟨v13, e_v13, hf⟩ := z_bd hf
        refine k_getI (pc := 148) d_Gr_takeWinner_148 fd_Gr_56 rfl e_v13 ?_
        obtain ⟨n14, e_n14, hf⟩ := z_bd hf
        obtain ⟨h15, e_h15, hf⟩ := z_bd hf
        refine k_callVv (pc := 151) (as := [(0, v13)]) (rest := []) d_Gr_takeWinner_151 cw_Gr_takeWinner_162 rfl (Nat.le_of_ble_eq_true rfl) (z_ck_of e_n14) (t_Li_addScope e_h15) ?_
        cases hf
        exact k_ret (pc := 154) d_Gr_takeWinner_154 rfl
    · refine k_if_eq_f (pc := 49) (tgt := 122) w39 d_Gr_takeWinner_49 rfl ?_
      refine k_aload_n (pc := 52) rfl z_m0 d_Gr_takeWinner_52 ?_
      obtain ⟨v17, e_v17, hf⟩ := z_bd hf
      refine k_getR (pc := 53) d_Gr_takeWinner_53 fd_Gr_20 rfl e_v17 ?_
      refine k_aload_n (pc := 56) rfl z_m0 d_Gr_takeWinner_56 ?_
      obtain ⟨v18, e_v18, hf⟩ := z_bd hf
      refine k_getI (pc := 57) d_Gr_takeWinner_57 fd_Gr_110 rfl e_v18 ?_
      obtain ⟨n19, e_n19, hf⟩ := z_bd hf
      obtain ⟨h20, e_h20, hf⟩ := z_bd hf
      refine k_callVv (pc := 60) (as := [(0, v18)]) (rest := []) d_Gr_takeWinner_60 cw_Gr_takeWinner_155 rfl (Nat.le_of_ble_eq_true rfl) (z_ck_of e_n19) (t_St_push e_h20) ?_
      refine k_aload_n (pc := 63) rfl z_m0 d_Gr_takeWinner_63 ?_
      obtain ⟨v21, e_v21, hf⟩ := z_bd hf
      refine k_getR (pc := 64) d_Gr_takeWinner_64 fd_Gr_20 rfl e_v21 ?_
      refine k_iconst (pc := 67) (zi_lit rfl) d_Gr_takeWinner_67 ?_
      refine k_aload_n (pc := 68) rfl z_m1 d_Gr_takeWinner_68 ?_
      refine k_aload_n (pc := 69) rfl z_m0 d_Gr_takeWinner_69 ?_
      obtain ⟨v22, e_v22, hf⟩ := z_bd hf
      refine k_getR (pc := 70) d_Gr_takeWinner_70 fd_Gr_28 rfl e_v22 ?_
      refine k_iconst (pc := 73) (zi_lit rfl) d_Gr_takeWinner_73 ?_
      obtain ⟨v23, e_v23, hf⟩ := z_bd hf
      refine k_iald (pc := 74) d_Gr_takeWinner_74 e_v23 ?_
      refine k_aload_n (pc := 75) rfl z_m0 d_Gr_takeWinner_75 ?_
      obtain ⟨v24, e_v24, hf⟩ := z_bd hf
      refine k_getR (pc := 76) d_Gr_takeWinner_76 fd_Gr_28 rfl e_v24 ?_
      refine k_iconst (pc := 79) (zi_lit rfl) d_Gr_takeWinner_79 ?_
      obtain ⟨v25, e_v25, hf⟩ := z_bd hf
      refine k_iald (pc := 80) d_Gr_takeWinner_80 e_v25 ?_
      obtain ⟨n26, e_n26, hf⟩ := z_bd hf
      obtain ⟨h27, e_h27, hf⟩ := z_bd hf
      refine k_callVv (pc := 81) (as := [(0, 1), (2, ((a1 : Nat) : Int)), (0, v23), (0, v25)]) (rest := []) d_Gr_takeWinner_81 cw_Gr_takeWinner_158 rfl (Nat.le_of_ble_eq_true rfl) (z_ck_of e_n26) (t_St_keepText e_h27) ?_
      refine k_aload_n (pc := 84) rfl z_m0 d_Gr_takeWinner_84 ?_
      obtain ⟨v28, e_v28, hf⟩ := z_bd hf
      refine k_getR (pc := 85) d_Gr_takeWinner_85 fd_Gr_20 rfl e_v28 ?_
      refine k_iconst (pc := 88) (zi_lit rfl) d_Gr_takeWinner_88 ?_
      refine k_aload_n (pc := 89) rfl z_m1 d_Gr_takeWinner_89 ?_
      refine k_aload_n (pc := 90) rfl z_m0 d_Gr_takeWinner_90 ?_
      obtain ⟨v29, e_v29, hf⟩ := z_bd hf
      refine k_getR (pc := 91) d_Gr_takeWinner_91 fd_Gr_28 rfl e_v29 ?_
      refine k_iconst (pc := 94) (zi_lit rfl) d_Gr_takeWinner_94 ?_
      obtain ⟨v30, e_v30, hf⟩ := z_bd hf
      refine k_iald (pc := 95) d_Gr_takeWinner_95 e_v30 ?_
      refine k_aload_n (pc := 96) rfl z_m0 d_Gr_takeWinner_96 ?_
      obtain ⟨v31, e_v31, hf⟩ := z_bd hf
      refine k_getR (pc := 97) d_Gr_takeWinner_97 fd_Gr_28 rfl e_v31 ?_
      refine k_iconst (pc := 100) (zi_lit rfl) d_Gr_takeWinner_100 ?_
      obtain ⟨v32, e_v32, hf⟩ := z_bd hf
      refine k_iald (pc := 101) d_Gr_takeWinner_101 e_v32 ?_
      obtain ⟨n33, e_n33, hf⟩ := z_bd hf
      obtain ⟨h34, e_h34, hf⟩ := z_bd hf
      refine k_callVv (pc := 102) (as := [(0, 2), (2, ((a1 : Nat) : Int)), (0, v30), (0, v32)]) (rest := []) d_Gr_takeWinner_102 cw_Gr_takeWinner_158 rfl (Nat.le_of_ble_eq_true rfl) (z_ck_of e_n33) (t_St_keepText e_h34) ?_
      refine k_aload_n (pc := 105) rfl z_m0 d_Gr_takeWinner_105 ?_
      refine k_aload_n (pc := 106) rfl z_m1 d_Gr_takeWinner_106 ?_
      refine k_aload_n (pc := 107) rfl z_m0 d_Gr_takeWinner_107 ?_
      obtain ⟨v35, e_v35, hf⟩ := z_bd hf
      refine k_getI (pc := 108) d_Gr_takeWinner_108 fd_Gr_90 rfl e_v35 ?_
      refine k_aload_n (pc := 111) rfl z_m0 d_Gr_takeWinner_111 ?_
      obtain ⟨v36, e_v36, hf⟩ := z_bd hf
      refine k_getI (pc := 112) d_Gr_takeWinner_112 fd_Gr_97 rfl e_v36 ?_
      obtain ⟨n37, e_n37, hf⟩ := z_bd hf
      obtain ⟨q38, e_q38, hf⟩ := z_bd hf
      refine k_callVi (pc := 115) (as := [(2, ((a1 : Nat) : Int)), (0, v35), (0, v36)]) (rest := []) d_Gr_takeWinner_115 cw_Gr_takeWinner_86 rfl (Nat.le_of_ble_eq_true rfl) (z_ck_of e_n37) (t_Gr_cut e_q38) ?_
      refine k_pop (pc := 118) (Or.inl rfl) d_Gr_takeWinner_118 ?_
      refine k_goto (pc := 119) (tgt := 154) d_Gr_takeWinner_119 rfl ?_
      cases hf
      exact k_ret (pc := 154) d_Gr_takeWinner_154 rfl
theorem t_Gr_takeWinner {a0 : Nat} {a1 : Nat} {h : zH} {r : zH} (hf : f_Gr_takeWinner a0 a1 h = some r) : zMt m_Gr_takeWinner [(2, ((a0 : Nat) : Int)), (2, ((a1 : Nat) : Int))] h (none, r) := zMt.of (by decide) (Nat.le_of_ble_eq_true rfl) (b_Gr_takeWinner_0 a0 a1 h r hf)
theorem b_Gr_tokenize_111 (a0 : Nat) (a1 : Nat) (h : zH) (r : zH) (hf : f_Gr_tokenize_111 a0 a1 h = some r) : zK m_Gr_tokenize 111 [(0, (2, ((a0 : Nat) : Int))), (1, (2, ((a1 : Nat) : Int)))] [] h (none, r) := by
  unfold f_Gr_tokenize_111 at hf
  refine k_aload_n (pc := 111) rfl z_m1 d_Gr_tokenize_111 ?_
  obtain ⟨v1, e_v1, hf⟩ := z_bd hf
  refine k_getR (pc := 112) d_Gr_tokenize_112 fd_Gr_100 rfl e_v1 ?_
  refine k_aload_n (pc := 115) rfl z_m0 d_Gr_tokenize_115 ?_
  obtain ⟨v2, e_v2, hf⟩ := z_bd hf
  refine k_getR (pc := 116) d_Gr_tokenize_116 fd_Gr_20 rfl e_v2 ?_
  obtain ⟨n3, e_n3, hf⟩ := z_bd hf
  obtain ⟨h4, e_h4, hf⟩ := z_bd hf
  refine k_callVv (pc := 119) (as := [(2, ((v2 : Nat) : Int))]) (rest := []) d_Gr_tokenize_119 cw_Gr_tokenize_59 rfl (Nat.le_of_ble_eq_true rfl) (z_ck_of e_n3) (t_St_copy e_h4) ?_
  cases hf
  exact k_ret (pc := 122) d_Gr_tokenize_122 rfl
theorem b_Gr_tokenize_105 (c26 : Nat → Nat → Nat → Int → Int → Int → zH → Option (zH)) (k26 : ∀ (x0 : Nat) (x1 : Nat) (x2 : Nat) (x3 : Int) (x4 : Int) (x5 : Int) (g : zH) (r : zH), c26 x0 x1 x2 x3 x4 x5 g = some r → zK m_Gr_tokenize 26 [(0, (2, ((x0 : Nat) : Int))), (1, (2, ((x1 : Nat) : Int))), (2, (2, ((x2 : Nat) : Int))), (3, (0, x3)), (4, (0, x4)), (5, (0, x5))] [] g (none, r)) (a0 : Nat) (a1 : Nat) (a2 : Nat) (a3 : Int) (a4 : Int) (a5 : Int) (h : zH) (r : zH) (hf : f_Gr_tokenize_105 c26 a0 a1 a2 a3 a4 a5 h = some r) : zK m_Gr_tokenize 105 [(0, (2, ((a0 : Nat) : Int))), (1, (2, ((a1 : Nat) : Int))), (2, (2, ((a2 : Nat) : Int))), (3, (0, a3)), (4, (0, a4)), (5, (0, a5))] [] h (none, r) := by
  unfold f_Gr_tokenize_105 at hf
  refine k_iinc (pc := 105) (L' := [(5, (0, zw (a5 + 1))), (0, (2, ((a0 : Nat) : Int))), (1, (2, ((a1 : Nat) : Int))), (2, (2, ((a2 : Nat) : Int))), (3, (0, a3)), (4, (0, a4))]) z_m5 d_Gr_tokenize_105 (Nat.le_of_ble_eq_true rfl) rfl ?_
  refine k_goto (pc := 108) (tgt := 26) d_Gr_tokenize_108 rfl ?_
  refine k_sub [1, 2, 3, 4, 5, 0] rfl ?_
  exact k26 a0 a1 a2 a3 a4 (zw (a5 + 1)) h _ hf
theorem b_Gr_tokenize_26 : ∀ (n : Nat) (a0 : Nat) (a1 : Nat) (a2 : Nat) (a3 : Int) (a4 : Int) (a5 : Int) (h : zH) (r : zH), f_Gr_tokenize_26 n a0 a1 a2 a3 a4 a5 h = some r → zK m_Gr_tokenize 26 [(0, (2, ((a0 : Nat) : Int))), (1, (2, ((a1 : Nat) : Int))), (2, (2, ((a2 : Nat) : Int))), (3, (0, a3)), (4, (0, a4)), (5, (0, a5))] [] h (none, r) := by
  intro n
  induction n with
  | zero =>
    intro a0 a1 a2 a3 a4 a5 h r hf
    cases hf
  | succ n ih =>
    intro a0 a1 a2 a3 a4 a5 h r hf
    unfold f_Gr_tokenize_26 at hf
    refine k_iload (pc := 26) z_m5 d_Gr_tokenize_26 ?_
    refine k_bipush (pc := 28) (zi_lit rfl) (by decide) d_Gr_tokenize_28 ?_
    rcases z_it hf with ⟨w23, hf⟩ | ⟨w23, hf⟩
    · refine k_ic_ge_t (pc := 30) (tgt := 111) w23 d_Gr_tokenize_30 rfl ?_
      refine k_sub [0, 1] rfl ?_
      exact b_Gr_tokenize_111 a0 a1 h _ hf
    · refine k_ic_ge_f (pc := 30) (tgt := 111) w23 d_Gr_tokenize_30 rfl ?_
      refine k_iload (pc := 33) z_m4 d_Gr_tokenize_33 ?_
      rcases z_it hf with ⟨w22, hf⟩ | ⟨w22, hf⟩
      · refine k_if_eq_t (pc := 35) (tgt := 111) w22 d_Gr_tokenize_35 rfl ?_
        refine k_sub [0, 1] rfl ?_
        exact b_Gr_tokenize_111 a0 a1 h _ hf
      · refine k_if_eq_f (pc := 35) (tgt := 111) w22 d_Gr_tokenize_35 rfl ?_
        refine k_aload_n (pc := 38) rfl z_m0 d_Gr_tokenize_38 ?_
        refine k_aload_n (pc := 39) rfl z_m1 d_Gr_tokenize_39 ?_
        refine k_iload_n (pc := 40) rfl z_m3 d_Gr_tokenize_40 ?_
        obtain ⟨n5, e_n5, hf⟩ := z_bd hf
        obtain ⟨q6, e_q6, hf⟩ := z_bd hf
        refine k_callVi (pc := 41) (as := [(2, ((a1 : Nat) : Int)), (0, a3)]) (rest := []) d_Gr_tokenize_41 cw_Gr_tokenize_71 rfl (Nat.le_of_ble_eq_true rfl) (z_ck_of e_n5) (t_Gr_findWinner e_q6) ?_
        rcases z_it hf with ⟨w21, hf⟩ | ⟨w21, hf⟩
        · refine k_if_ne_f (pc := 44) (tgt := 59) w21 d_Gr_tokenize_44 rfl ?_
          refine k_aload_n (pc := 47) rfl z_m0 d_Gr_tokenize_47 ?_
          refine k_aload_n (pc := 48) rfl z_m1 d_Gr_tokenize_48 ?_
          refine k_aload_n (pc := 49) rfl z_m2 d_Gr_tokenize_49 ?_
          obtain ⟨n19, e_n19, hf⟩ := z_bd hf
          obtain ⟨h20, e_h20, hf⟩ := z_bd hf
          refine k_callVv (pc := 50) (as := [(2, ((a1 : Nat) : Int)), (2, ((a2 : Nat) : Int))]) (rest := []) d_Gr_tokenize_50 cw_Gr_tokenize_75 rfl (Nat.le_of_ble_eq_true rfl) (z_ck_of e_n19) (t_Gr_mark e_h20) ?_
          refine k_iconst (pc := 53) (zi_lit rfl) d_Gr_tokenize_53 ?_
          refine k_istore (pc := 54) (L' := [(4, (0, 0)), (0, (2, ((a0 : Nat) : Int))), (1, (2, ((a1 : Nat) : Int))), (2, (2, ((a2 : Nat) : Int))), (3, (0, a3)), (5, (0, a5))]) d_Gr_tokenize_54 (Nat.le_of_ble_eq_true rfl) rfl ?_
          refine k_goto (pc := 56) (tgt := 105) d_Gr_tokenize_56 rfl ?_
          refine k_sub [1, 2, 3, 4, 0, 5] rfl ?_
          exact b_Gr_tokenize_105 (f_Gr_tokenize_26 n) ih a0 a1 a2 a3 0 a5 h20 _ hf
        · refine k_if_ne_t (pc := 44) (tgt := 59) w21 d_Gr_tokenize_44 rfl ?_
          refine k_aload_n (pc := 59) rfl z_m0 d_Gr_tokenize_59 ?_
          refine k_iload_n (pc := 60) rfl z_m3 d_Gr_tokenize_60 ?_
          obtain ⟨n7, e_n7, hf⟩ := z_bd hf
          obtain ⟨q8, e_q8, hf⟩ := z_bd hf
          refine k_callVi (pc := 61) (as := [(0, a3)]) (rest := []) d_Gr_tokenize_61 cw_Gr_tokenize_79 rfl (Nat.le_of_ble_eq_true rfl) (z_ck_of e_n7) (t_Gr_isLast e_q8) ?_
          rcases z_it hf with ⟨w18, hf⟩ | ⟨w18, hf⟩
          · refine k_if_eq_t (pc := 64) (tgt := 84) w18 d_Gr_tokenize_64 rfl ?_
            refine k_aload_n (pc := 84) rfl z_m0 d_Gr_tokenize_84 ?_
            refine k_aload_n (pc := 85) rfl z_m1 d_Gr_tokenize_85 ?_
            refine k_iload_n (pc := 86) rfl z_m3 d_Gr_tokenize_86 ?_
            refine k_aload_n (pc := 87) rfl z_m0 d_Gr_tokenize_87 ?_
            obtain ⟨v9, e_v9, hf⟩ := z_bd hf
            refine k_getI (pc := 88) d_Gr_tokenize_88 fd_Gr_90 rfl e_v9 ?_
            obtain ⟨n10, e_n10, hf⟩ := z_bd hf
            obtain ⟨q11, e_q11, hf⟩ := z_bd hf
            refine k_callVi (pc := 91) (as := [(2, ((a1 : Nat) : Int)), (0, a3), (0, v9)]) (rest := []) d_Gr_tokenize_91 cw_Gr_tokenize_86 rfl (Nat.le_of_ble_eq_true rfl) (z_ck_of e_n10) (t_Gr_cut e_q11) ?_
            refine k_pop (pc := 94) (Or.inl rfl) d_Gr_tokenize_94 ?_
            refine k_aload_n (pc := 95) rfl z_m0 d_Gr_tokenize_95 ?_
            refine k_aload_n (pc := 96) rfl z_m1 d_Gr_tokenize_96 ?_
            obtain ⟨n12, e_n12, hf⟩ := z_bd hf
            obtain ⟨h13, e_h13, hf⟩ := z_bd hf
            refine k_callVv (pc := 97) (as := [(2, ((a1 : Nat) : Int))]) (rest := []) d_Gr_tokenize_97 cw_Gr_tokenize_93 rfl (Nat.le_of_ble_eq_true rfl) (z_ck_of e_n12) (t_Gr_takeWinner e_h13) ?_
            refine k_aload_n (pc := 100) rfl z_m0 d_Gr_tokenize_100 ?_
            obtain ⟨v14, e_v14, hf⟩ := z_bd hf
            refine k_getI (pc := 101) d_Gr_tokenize_101 fd_Gr_97 rfl e_v14 ?_
            refine k_istore_n (pc := 104) (L' := [(3, (0, v14)), (0, (2, ((a0 : Nat) : Int))), (1, (2, ((a1 : Nat) : Int))), (2, (2, ((a2 : Nat) : Int))), (4, (0, a4)), (5, (0, a5))]) rfl d_Gr_tokenize_104 (Nat.le_of_ble_eq_true rfl) rfl ?_
            refine k_sub [1, 2, 3, 0, 4, 5] rfl ?_
            exact b_Gr_tokenize_105 (f_Gr_tokenize_26 n) ih a0 a1 a2 v14 a4 a5 h13 _ hf
          · refine k_if_eq_f (pc := 64) (tgt := 84) w18 d_Gr_tokenize_64 rfl ?_
            refine k_aload_n (pc := 67) rfl z_m0 d_Gr_tokenize_67 ?_
            refine k_aload_n (pc := 68) rfl z_m1 d_Gr_tokenize_68 ?_
            refine k_iload_n (pc := 69) rfl z_m3 d_Gr_tokenize_69 ?_
            refine k_aload_n (pc := 70) rfl z_m1 d_Gr_tokenize_70 ?_
            obtain ⟨v15, e_v15, hf⟩ := z_bd hf
            refine k_getI (pc := 71) d_Gr_tokenize_71 fd_Gr_83 rfl e_v15 ?_
            obtain ⟨n16, e_n16, hf⟩ := z_bd hf
            obtain ⟨q17, e_q17, hf⟩ := z_bd hf
            refine k_callVi (pc := 74) (as := [(2, ((a1 : Nat) : Int)), (0, a3), (0, v15)]) (rest := []) d_Gr_tokenize_74 cw_Gr_tokenize_86 rfl (Nat.le_of_ble_eq_true rfl) (z_ck_of e_n16) (t_Gr_cut e_q17) ?_
            refine k_pop (pc := 77) (Or.inl rfl) d_Gr_tokenize_77 ?_
            refine k_iconst (pc := 78) (zi_lit rfl) d_Gr_tokenize_78 ?_
            refine k_istore (pc := 79) (L' := [(4, (0, 0)), (0, (2, ((a0 : Nat) : Int))), (1, (2, ((a1 : Nat) : Int))), (2, (2, ((a2 : Nat) : Int))), (3, (0, a3)), (5, (0, a5))]) d_Gr_tokenize_79 (Nat.le_of_ble_eq_true rfl) rfl ?_
            refine k_goto (pc := 81) (tgt := 105) d_Gr_tokenize_81 rfl ?_
            refine k_sub [1, 2, 3, 4, 0, 5] rfl ?_
            exact b_Gr_tokenize_105 (f_Gr_tokenize_26 n) ih a0 a1 a2 a3 0 a5 q17.2 _ hf
theorem b_Gr_tokenize_0 (a0 : Nat) (a1 : Nat) (a2 : Nat) (h : zH) (r : zH) (hf : f_Gr_tokenize a0 a1 a2 h = some r) : zK m_Gr_tokenize 0 [(0, (2, ((a0 : Nat) : Int))), (1, (2, ((a1 : Nat) : Int))), (2, (2, ((a2 : Nat) : Int)))] [] h (none, r) := by
  unfold f_Gr_tokenize at hf
  refine k_aload_n (pc := 0) rfl z_m0 d_Gr_tokenize_0 ?_
  obtain ⟨v24, e_v24, hf⟩ := z_bd hf
  refine k_getR (pc := 1) d_Gr_tokenize_1 fd_Gr_20 rfl e_v24 ?_
  refine k_aload_n (pc := 4) rfl z_m2 d_Gr_tokenize_4 ?_
  obtain ⟨n25, e_n25, hf⟩ := z_bd hf
  obtain ⟨h26, e_h26, hf⟩ := z_bd hf
  refine k_callVv (pc := 5) (as := [(2, ((a2 : Nat) : Int))]) (rest := []) d_Gr_tokenize_5 cw_Gr_tokenize_59 rfl (Nat.le_of_ble_eq_true rfl) (z_ck_of e_n25) (t_St_copy e_h26) ?_
  refine k_aload_n (pc := 8) rfl z_m1 d_Gr_tokenize_8 ?_
  refine k_iconst (pc := 9) (zi_lit rfl) d_Gr_tokenize_9 ?_
  obtain ⟨h27, e_h27, hf⟩ := z_bd hf
  refine k_putI (pc := 10) d_Gr_tokenize_10 fd_Gr_63 (fun q => by cases q) rfl e_h27 ?_
  refine k_aload_n (pc := 13) rfl z_m1 d_Gr_tokenize_13 ?_
  refine k_iconst (pc := 14) (zi_lit rfl) d_Gr_tokenize_14 ?_
  obtain ⟨h28, e_h28, hf⟩ := z_bd hf
  refine k_putZ (pc := 15) d_Gr_tokenize_15 fd_Gr_68 (fun q => by cases q) rfl e_h28 ?_
  refine k_iconst (pc := 18) (zi_lit rfl) d_Gr_tokenize_18 ?_
  refine k_istore_n (pc := 19) (L' := [(3, (0, 0)), (0, (2, ((a0 : Nat) : Int))), (1, (2, ((a1 : Nat) : Int))), (2, (2, ((a2 : Nat) : Int)))]) rfl d_Gr_tokenize_19 (Nat.le_of_ble_eq_true rfl) rfl ?_
  refine k_iconst (pc := 20) (zi_lit rfl) d_Gr_tokenize_20 ?_
  refine k_istore (pc := 21) (L' := [(4, (0, 1)), (3, (0, 0)), (0, (2, ((a0 : Nat) : Int))), (1, (2, ((a1 : Nat) : Int))), (2, (2, ((a2 : Nat) : Int)))]) d_Gr_tokenize_21 (Nat.le_of_ble_eq_true rfl) rfl ?_
  refine k_iconst (pc := 23) (zi_lit rfl) d_Gr_tokenize_23 ?_
  refine k_istore (pc := 24) (L' := [(5, (0, 0)), (4, (0, 1)), (3, (0, 0)), (0, (2, ((a0 : Nat) : Int))), (1, (2, ((a1 : Nat) : Int))), (2, (2, ((a2 : Nat) : Int)))]) d_Gr_tokenize_24 (Nat.le_of_ble_eq_true rfl) rfl ?_
  refine k_sub [3, 4, 5, 2, 1, 0] rfl ?_
  exact b_Gr_tokenize_26 100000 a0 a1 a2 0 1 0 h28 _ hf
theorem t_Gr_tokenize {a0 : Nat} {a1 : Nat} {a2 : Nat} {h : zH} {r : zH} (hf : f_Gr_tokenize a0 a1 a2 h = some r) : zMt m_Gr_tokenize [(2, ((a0 : Nat) : Int)), (2, ((a1 : Nat) : Int)), (2, ((a2 : Nat) : Int))] h (none, r) := zMt.of (by decide) (Nat.le_of_ble_eq_true rfl) (b_Gr_tokenize_0 a0 a1 a2 h r hf)
theorem b_St_isSameText_71 (c24 : Nat → Nat → Int → Int → Int → zH → Option (Int × zH)) (k24 : ∀ (x0 : Nat) (x1 : Nat) (x2 : Int) (x3 : Int) (x4 : Int) (g : zH) (r : Int × zH), c24 x0 x1 x2 x3 x4 g = some r → zK m_St_isSameText 24 [(0, (2, ((x0 : Nat) : Int))), (1, (2, ((x1 : Nat) : Int))), (2, (0, x2)), (3, (0, x3)), (4, (0, x4))] [] g (some (0, r.1), r.2)) (a0 : Nat) (a1 : Nat) (a2 : Int) (a4 : Int) (s0 : Int) (h : zH) (r : Int × zH) (hf : f_St_isSameText_71 c24 a0 a1 a2 a4 s0 h = some r) : zK m_St_isSameText 71 [(0, (2, ((a0 : Nat) : Int))), (1, (2, ((a1 : Nat) : Int))), (2, (0, a2)), (4, (0, a4))] [(0, s0)] h (some (0, r.1), r.2) := by
  unfold f_St_isSameText_71 at hf
  refine k_istore_n (pc := 71) (L' := [(3, (0, s0)), (0, (2, ((a0 : Nat) : Int))), (1, (2, ((a1 : Nat) : Int))), (2, (0, a2)), (4, (0, a4))]) rfl d_St_isSameText_71 (Nat.le_of_ble_eq_true rfl) rfl ?_
  refine k_iinc (pc := 72) (L' := [(4, (0, zw (a4 + 1))), (3, (0, s0)), (0, (2, ((a0 : Nat) : Int))), (1, (2, ((a1 : Nat) : Int))), (2, (0, a2))]) z_m4 d_St_isSameText_72 (Nat.le_of_ble_eq_true rfl) rfl ?_
  refine k_goto (pc := 75) (tgt := 24) d_St_isSameText_75 rfl ?_
  refine k_sub [2, 3, 4, 1, 0] rfl ?_
  exact k24 a0 a1 a2 s0 (zw (a4 + 1)) h _ hf
theorem b_St_isSameText_24 : ∀ (n : Nat) (a0 : Nat) (a1 : Nat) (a2 : Int) (a3 : Int) (a4 : Int) (h : zH) (r : Int × zH), f_St_isSameText_24 n a0 a1 a2 a3 a4 h = some r → zK m_St_isSameText 24 [(0, (2, ((a0 : Nat) : Int))), (1, (2, ((a1 : Nat) : Int))), (2, (0, a2)), (3, (0, a3)), (4, (0, a4))] [] h (some (0, r.1), r.2) := by
  intro n
  induction n with
  | zero =>
    intro a0 a1 a2 a3 a4 h r hf
    cases hf
  | succ n ih =>
    intro a0 a1 a2 a3 a4 h r hf
    unfold f_St_isSameText_24 at hf
    refine k_iload (pc := 24) z_m4 d_St_isSameText_24 ?_
    refine k_aload_n (pc := 26) rfl z_m0 d_St_isSameText_26 ?_
    obtain ⟨v1, e_v1, hf⟩ := z_bd hf
    refine k_getR (pc := 27) d_St_isSameText_27 fd_St_15 rfl e_v1 ?_
    refine k_iload_n (pc := 30) rfl z_m2 d_St_isSameText_30 ?_
    obtain ⟨v2, e_v2, hf⟩ := z_bd hf
    refine k_iald (pc := 31) d_St_isSameText_31 e_v2 ?_
    rcases z_it hf with ⟨w9, hf⟩ | ⟨w9, hf⟩
    · refine k_ic_ge_t (pc := 32) (tgt := 78) w9 d_St_isSameText_32 rfl ?_
      refine k_iload_n (pc := 78) rfl z_m3 d_St_isSameText_78 ?_
      obtain ⟨b, eb, hf⟩ := z_bd hf
      have hb := z_bo_of eb
      rw [hb.1] at hf
      cases hf
      exact k_zret (pc := 79) d_St_isSameText_79 rfl hb.2
    · refine k_ic_ge_f (pc := 32) (tgt := 78) w9 d_St_isSameText_32 rfl ?_
      refine k_iload_n (pc := 35) rfl z_m3 d_St_isSameText_35 ?_
      rcases z_it hf with ⟨w8, hf⟩ | ⟨w8, hf⟩
      · refine k_if_eq_t (pc := 36) (tgt := 78) w8 d_St_isSameText_36 rfl ?_
        refine k_iload_n (pc := 78) rfl z_m3 d_St_isSameText_78 ?_
        obtain ⟨b, eb, hf⟩ := z_bd hf
        have hb := z_bo_of eb
        rw [hb.1] at hf
        cases hf
        exact k_zret (pc := 79) d_St_isSameText_79 rfl hb.2
      · refine k_if_eq_f (pc := 36) (tgt := 78) w8 d_St_isSameText_36 rfl ?_
        refine k_aload_n (pc := 39) rfl z_m0 d_St_isSameText_39 ?_
        obtain ⟨v3, e_v3, hf⟩ := z_bd hf
        refine k_getR (pc := 40) d_St_isSameText_40 fd_St_18 rfl e_v3 ?_
        refine k_iload_n (pc := 43) rfl z_m2 d_St_isSameText_43 ?_
        refine k_bipush (pc := 44) (zi_lit rfl) (by decide) d_St_isSameText_44 ?_
        refine k_imul (pc := 46) d_St_isSameText_46 ?_
        refine k_iload (pc := 47) z_m4 d_St_isSameText_47 ?_
        refine k_iadd (pc := 49) d_St_isSameText_49 ?_
        obtain ⟨v4, e_v4, hf⟩ := z_bd hf
        refine k_cald (pc := 50) d_St_isSameText_50 e_v4 ?_
        refine k_aload_n (pc := 51) rfl z_m1 d_St_isSameText_51 ?_
        obtain ⟨v5, e_v5, hf⟩ := z_bd hf
        refine k_getR (pc := 52) d_St_isSameText_52 fd_St_18 rfl e_v5 ?_
        refine k_iload_n (pc := 55) rfl z_m2 d_St_isSameText_55 ?_
        refine k_bipush (pc := 56) (zi_lit rfl) (by decide) d_St_isSameText_56 ?_
        refine k_imul (pc := 58) d_St_isSameText_58 ?_
        refine k_iload (pc := 59) z_m4 d_St_isSameText_59 ?_
        refine k_iadd (pc := 61) d_St_isSameText_61 ?_
        obtain ⟨v6, e_v6, hf⟩ := z_bd hf
        refine k_cald (pc := 62) d_St_isSameText_62 e_v6 ?_
        rcases z_it hf with ⟨w7, hf⟩ | ⟨w7, hf⟩
        · refine k_ic_ne_f (pc := 63) (tgt := 70) w7 d_St_isSameText_63 rfl ?_
          refine k_iconst (pc := 66) (zi_lit rfl) d_St_isSameText_66 ?_
          refine k_goto (pc := 67) (tgt := 71) d_St_isSameText_67 rfl ?_
          refine k_sub [0, 1, 2, 4] rfl ?_
          exact b_St_isSameText_71 (f_St_isSameText_24 n) ih a0 a1 a2 a4 1 h _ hf
        · refine k_ic_ne_t (pc := 63) (tgt := 70) w7 d_St_isSameText_63 rfl ?_
          refine k_iconst (pc := 70) (zi_lit rfl) d_St_isSameText_70 ?_
          refine k_sub [0, 1, 2, 4] rfl ?_
          exact b_St_isSameText_71 (f_St_isSameText_24 n) ih a0 a1 a2 a4 0 h _ hf
theorem b_St_isSameText_20 (a0 : Nat) (a1 : Nat) (a2 : Int) (s0 : Int) (h : zH) (r : Int × zH) (hf : f_St_isSameText_20 a0 a1 a2 s0 h = some r) : zK m_St_isSameText 20 [(0, (2, ((a0 : Nat) : Int))), (1, (2, ((a1 : Nat) : Int))), (2, (0, a2))] [(0, s0)] h (some (0, r.1), r.2) := by
  unfold f_St_isSameText_20 at hf
  refine k_istore_n (pc := 20) (L' := [(3, (0, s0)), (0, (2, ((a0 : Nat) : Int))), (1, (2, ((a1 : Nat) : Int))), (2, (0, a2))]) rfl d_St_isSameText_20 (Nat.le_of_ble_eq_true rfl) rfl ?_
  refine k_iconst (pc := 21) (zi_lit rfl) d_St_isSameText_21 ?_
  refine k_istore (pc := 22) (L' := [(4, (0, 0)), (3, (0, s0)), (0, (2, ((a0 : Nat) : Int))), (1, (2, ((a1 : Nat) : Int))), (2, (0, a2))]) d_St_isSameText_22 (Nat.le_of_ble_eq_true rfl) rfl ?_
  refine k_sub [2, 3, 4, 1, 0] rfl ?_
  exact b_St_isSameText_24 100000 a0 a1 a2 s0 0 h _ hf
theorem b_St_isSameText_0 (a0 : Nat) (a1 : Nat) (a2 : Int) (h : zH) (r : Int × zH) (hf : f_St_isSameText a0 a1 a2 h = some r) : zK m_St_isSameText 0 [(0, (2, ((a0 : Nat) : Int))), (1, (2, ((a1 : Nat) : Int))), (2, (0, a2))] [] h (some (0, r.1), r.2) := by
  unfold f_St_isSameText at hf
  refine k_aload_n (pc := 0) rfl z_m0 d_St_isSameText_0 ?_
  obtain ⟨v10, e_v10, hf⟩ := z_bd hf
  refine k_getR (pc := 1) d_St_isSameText_1 fd_St_15 rfl e_v10 ?_
  refine k_iload_n (pc := 4) rfl z_m2 d_St_isSameText_4 ?_
  obtain ⟨v11, e_v11, hf⟩ := z_bd hf
  refine k_iald (pc := 5) d_St_isSameText_5 e_v11 ?_
  refine k_aload_n (pc := 6) rfl z_m1 d_St_isSameText_6 ?_
  obtain ⟨v12, e_v12, hf⟩ := z_bd hf
  refine k_getR (pc := 7) d_St_isSameText_7 fd_St_15 rfl e_v12 ?_
  refine k_iload_n (pc := 10) rfl z_m2 d_St_isSameText_10 ?_
  obtain ⟨v13, e_v13, hf⟩ := z_bd hf
  refine k_iald (pc := 11) d_St_isSameText_11 e_v13 ?_
  rcases z_it hf with ⟨w14, hf⟩ | ⟨w14, hf⟩
  · refine k_ic_ne_f (pc := 12) (tgt := 19) w14 d_St_isSameText_12 rfl ?_
    refine k_iconst (pc := 15) (zi_lit rfl) d_St_isSameText_15 ?_
    refine k_goto (pc := 16) (tgt := 20) d_St_isSameText_16 rfl ?_
    exact b_St_isSameText_20 a0 a1 a2 1 h _ hf
  · refine k_ic_ne_t (pc := 12) (tgt := 19) w14 d_St_isSameText_12 rfl ?_
    refine k_iconst (pc := 19) (zi_lit rfl) d_St_isSameText_19 ?_
    exact b_St_isSameText_20 a0 a1 a2 0 h _ hf
theorem t_St_isSameText {a0 : Nat} {a1 : Nat} {a2 : Int} {h : zH} {r : Int × zH} (hf : f_St_isSameText a0 a1 a2 h = some r) : zMt m_St_isSameText [(2, ((a0 : Nat) : Int)), (2, ((a1 : Nat) : Int)), (0, a2)] h (some (0, r.1), r.2) := zMt.of (by decide) (Nat.le_of_ble_eq_true rfl) (b_St_isSameText_0 a0 a1 a2 h r hf)
theorem b_St_isSame_75 (c19 : Nat → Nat → Int → Int → zH → Option (Int × zH)) (k19 : ∀ (x0 : Nat) (x1 : Nat) (x2 : Int) (x3 : Int) (g : zH) (r : Int × zH), c19 x0 x1 x2 x3 g = some r → zK m_St_isSame 19 [(0, (2, ((x0 : Nat) : Int))), (1, (2, ((x1 : Nat) : Int))), (2, (0, x2)), (3, (0, x3))] [] g (some (0, r.1), r.2)) (a0 : Nat) (a1 : Nat) (a3 : Int) (s0 : Int) (h : zH) (r : Int × zH) (hf : f_St_isSame_75 c19 a0 a1 a3 s0 h = some r) : zK m_St_isSame 75 [(0, (2, ((a0 : Nat) : Int))), (1, (2, ((a1 : Nat) : Int))), (3, (0, a3))] [(0, s0)] h (some (0, r.1), r.2) := by
  unfold f_St_isSame_75 at hf
  refine k_istore_n (pc := 75) (L' := [(2, (0, s0)), (0, (2, ((a0 : Nat) : Int))), (1, (2, ((a1 : Nat) : Int))), (3, (0, a3))]) rfl d_St_isSame_75 (Nat.le_of_ble_eq_true rfl) rfl ?_
  refine k_iinc (pc := 76) (L' := [(3, (0, zw (a3 + 1))), (2, (0, s0)), (0, (2, ((a0 : Nat) : Int))), (1, (2, ((a1 : Nat) : Int)))]) z_m3 d_St_isSame_76 (Nat.le_of_ble_eq_true rfl) rfl ?_
  refine k_goto (pc := 79) (tgt := 19) d_St_isSame_79 rfl ?_
  refine k_sub [2, 3, 1, 0] rfl ?_
  exact k19 a0 a1 s0 (zw (a3 + 1)) h _ hf
theorem b_St_isSame_74 (c19 : Nat → Nat → Int → Int → zH → Option (Int × zH)) (k19 : ∀ (x0 : Nat) (x1 : Nat) (x2 : Int) (x3 : Int) (g : zH) (r : Int × zH), c19 x0 x1 x2 x3 g = some r → zK m_St_isSame 19 [(0, (2, ((x0 : Nat) : Int))), (1, (2, ((x1 : Nat) : Int))), (2, (0, x2)), (3, (0, x3))] [] g (some (0, r.1), r.2)) (a0 : Nat) (a1 : Nat) (a3 : Int) (h : zH) (r : Int × zH) (hf : f_St_isSame_74 c19 a0 a1 a3 h = some r) : zK m_St_isSame 74 [(0, (2, ((a0 : Nat) : Int))), (1, (2, ((a1 : Nat) : Int))), (3, (0, a3))] [] h (some (0, r.1), r.2) := by
  unfold f_St_isSame_74 at hf
  refine k_iconst (pc := 74) (zi_lit rfl) d_St_isSame_74 ?_
  exact b_St_isSame_75 c19 k19 a0 a1 a3 0 h _ hf
theorem b_St_isSame_19 : ∀ (n : Nat) (a0 : Nat) (a1 : Nat) (a2 : Int) (a3 : Int) (h : zH) (r : Int × zH), f_St_isSame_19 n a0 a1 a2 a3 h = some r → zK m_St_isSame 19 [(0, (2, ((a0 : Nat) : Int))), (1, (2, ((a1 : Nat) : Int))), (2, (0, a2)), (3, (0, a3))] [] h (some (0, r.1), r.2) := by
  intro n
  induction n with
  | zero =>
    intro a0 a1 a2 a3 h r hf
    cases hf
  | succ n ih =>
    intro a0 a1 a2 a3 h r hf
    unfold f_St_isSame_19 at hf
    refine k_iload_n (pc := 19) rfl z_m3 d_St_isSame_19 ?_
    refine k_aload_n (pc := 20) rfl z_m0 d_St_isSame_20 ?_
    obtain ⟨v1, e_v1, hf⟩ := z_bd hf
    refine k_getI (pc := 21) d_St_isSame_21 fd_St_22 rfl e_v1 ?_
    rcases z_it hf with ⟨w14, hf⟩ | ⟨w14, hf⟩
    · refine k_ic_ge_t (pc := 24) (tgt := 82) w14 d_St_isSame_24 rfl ?_
      refine k_iload_n (pc := 82) rfl z_m2 d_St_isSame_82 ?_
      obtain ⟨b, eb, hf⟩ := z_bd hf
      have hb := z_bo_of eb
      rw [hb.1] at hf
      cases hf
      exact k_zret (pc := 83) d_St_isSame_83 rfl hb.2
    · refine k_ic_ge_f (pc := 24) (tgt := 82) w14 d_St_isSame_24 rfl ?_
      refine k_iload_n (pc := 27) rfl z_m2 d_St_isSame_27 ?_
      rcases z_it hf with ⟨w13, hf⟩ | ⟨w13, hf⟩
      · refine k_if_eq_t (pc := 28) (tgt := 82) w13 d_St_isSame_28 rfl ?_
        refine k_iload_n (pc := 82) rfl z_m2 d_St_isSame_82 ?_
        obtain ⟨b, eb, hf⟩ := z_bd hf
        have hb := z_bo_of eb
        rw [hb.1] at hf
        cases hf
        exact k_zret (pc := 83) d_St_isSame_83 rfl hb.2
      · refine k_if_eq_f (pc := 28) (tgt := 82) w13 d_St_isSame_28 rfl ?_
        refine k_aload_n (pc := 31) rfl z_m0 d_St_isSame_31 ?_
        obtain ⟨v2, e_v2, hf⟩ := z_bd hf
        refine k_getR (pc := 32) d_St_isSame_32 fd_St_9 rfl e_v2 ?_
        refine k_iload_n (pc := 35) rfl z_m3 d_St_isSame_35 ?_
        obtain ⟨v3, e_v3, hf⟩ := z_bd hf
        refine k_iald (pc := 36) d_St_isSame_36 e_v3 ?_
        refine k_aload_n (pc := 37) rfl z_m1 d_St_isSame_37 ?_
        obtain ⟨v4, e_v4, hf⟩ := z_bd hf
        refine k_getR (pc := 38) d_St_isSame_38 fd_St_9 rfl e_v4 ?_
        refine k_iload_n (pc := 41) rfl z_m3 d_St_isSame_41 ?_
        obtain ⟨v5, e_v5, hf⟩ := z_bd hf
        refine k_iald (pc := 42) d_St_isSame_42 e_v5 ?_
        rcases z_it hf with ⟨w12, hf⟩ | ⟨w12, hf⟩
        · refine k_ic_ne_f (pc := 43) (tgt := 74) w12 d_St_isSame_43 rfl ?_
          refine k_aload_n (pc := 46) rfl z_m0 d_St_isSame_46 ?_
          refine k_aload_n (pc := 47) rfl z_m1 d_St_isSame_47 ?_
          refine k_iload_n (pc := 48) rfl z_m3 d_St_isSame_48 ?_
          refine k_iconst (pc := 49) (zi_lit rfl) d_St_isSame_49 ?_
          refine k_imul (pc := 50) d_St_isSame_50 ?_
          obtain ⟨n6, e_n6, hf⟩ := z_bd hf
          obtain ⟨q7, e_q7, hf⟩ := z_bd hf
          refine k_callVi (pc := 51) (as := [(2, ((a1 : Nat) : Int)), (0, zw (a3 * 2))]) (rest := []) d_St_isSame_51 cw_St_isSame_37 rfl (Nat.le_of_ble_eq_true rfl) (z_ck_of e_n6) (t_St_isSameText e_q7) ?_
          rcases z_it hf with ⟨w11, hf⟩ | ⟨w11, hf⟩
          · refine k_if_eq_t (pc := 54) (tgt := 74) w11 d_St_isSame_54 rfl ?_
            refine k_sub [0, 1, 3] rfl ?_
            exact b_St_isSame_74 (f_St_isSame_19 n) ih a0 a1 a3 q7.2 _ hf
          · refine k_if_eq_f (pc := 54) (tgt := 74) w11 d_St_isSame_54 rfl ?_
            refine k_aload_n (pc := 57) rfl z_m0 d_St_isSame_57 ?_
            refine k_aload_n (pc := 58) rfl z_m1 d_St_isSame_58 ?_
            refine k_iload_n (pc := 59) rfl z_m3 d_St_isSame_59 ?_
            refine k_iconst (pc := 60) (zi_lit rfl) d_St_isSame_60 ?_
            refine k_imul (pc := 61) d_St_isSame_61 ?_
            refine k_iconst (pc := 62) (zi_lit rfl) d_St_isSame_62 ?_
            refine k_iadd (pc := 63) d_St_isSame_63 ?_
            obtain ⟨n8, e_n8, hf⟩ := z_bd hf
            obtain ⟨q9, e_q9, hf⟩ := z_bd hf
            refine k_callVi (pc := 64) (as := [(2, ((a1 : Nat) : Int)), (0, zw ((zw (a3 * 2)) + 1))]) (rest := []) d_St_isSame_64 cw_St_isSame_37 rfl (Nat.le_of_ble_eq_true rfl) (z_ck_of e_n8) (t_St_isSameText e_q9) ?_
            rcases z_it hf with ⟨w10, hf⟩ | ⟨w10, hf⟩
            · refine k_if_eq_t (pc := 67) (tgt := 74) w10 d_St_isSame_67 rfl ?_
              refine k_sub [0, 1, 3] rfl ?_
              exact b_St_isSame_74 (f_St_isSame_19 n) ih a0 a1 a3 q9.2 _ hf
            · refine k_if_eq_f (pc := 67) (tgt := 74) w10 d_St_isSame_67 rfl ?_
              refine k_iconst (pc := 70) (zi_lit rfl) d_St_isSame_70 ?_
              refine k_goto (pc := 71) (tgt := 75) d_St_isSame_71 rfl ?_
              refine k_sub [0, 1, 3] rfl ?_
              exact b_St_isSame_75 (f_St_isSame_19 n) ih a0 a1 a3 1 q9.2 _ hf
        · refine k_ic_ne_t (pc := 43) (tgt := 74) w12 d_St_isSame_43 rfl ?_
          refine k_sub [0, 1, 3] rfl ?_
          exact b_St_isSame_74 (f_St_isSame_19 n) ih a0 a1 a3 h _ hf
theorem b_St_isSame_16 (a0 : Nat) (a1 : Nat) (s0 : Int) (h : zH) (r : Int × zH) (hf : f_St_isSame_16 a0 a1 s0 h = some r) : zK m_St_isSame 16 [(0, (2, ((a0 : Nat) : Int))), (1, (2, ((a1 : Nat) : Int)))] [(0, s0)] h (some (0, r.1), r.2) := by
  unfold f_St_isSame_16 at hf
  refine k_istore_n (pc := 16) (L' := [(2, (0, s0)), (0, (2, ((a0 : Nat) : Int))), (1, (2, ((a1 : Nat) : Int)))]) rfl d_St_isSame_16 (Nat.le_of_ble_eq_true rfl) rfl ?_
  refine k_iconst (pc := 17) (zi_lit rfl) d_St_isSame_17 ?_
  refine k_istore_n (pc := 18) (L' := [(3, (0, 0)), (2, (0, s0)), (0, (2, ((a0 : Nat) : Int))), (1, (2, ((a1 : Nat) : Int)))]) rfl d_St_isSame_18 (Nat.le_of_ble_eq_true rfl) rfl ?_
  refine k_sub [2, 3, 1, 0] rfl ?_
  exact b_St_isSame_19 100000 a0 a1 s0 0 h _ hf
theorem b_St_isSame_0 (a0 : Nat) (a1 : Nat) (h : zH) (r : Int × zH) (hf : f_St_isSame a0 a1 h = some r) : zK m_St_isSame 0 [(0, (2, ((a0 : Nat) : Int))), (1, (2, ((a1 : Nat) : Int)))] [] h (some (0, r.1), r.2) := by
  unfold f_St_isSame at hf
  refine k_aload_n (pc := 0) rfl z_m0 d_St_isSame_0 ?_
  obtain ⟨v15, e_v15, hf⟩ := z_bd hf
  refine k_getI (pc := 1) d_St_isSame_1 fd_St_22 rfl e_v15 ?_
  refine k_aload_n (pc := 4) rfl z_m1 d_St_isSame_4 ?_
  obtain ⟨v16, e_v16, hf⟩ := z_bd hf
  refine k_getI (pc := 5) d_St_isSame_5 fd_St_22 rfl e_v16 ?_
  rcases z_it hf with ⟨w17, hf⟩ | ⟨w17, hf⟩
  · refine k_ic_ne_f (pc := 8) (tgt := 15) w17 d_St_isSame_8 rfl ?_
    refine k_iconst (pc := 11) (zi_lit rfl) d_St_isSame_11 ?_
    refine k_goto (pc := 12) (tgt := 16) d_St_isSame_12 rfl ?_
    exact b_St_isSame_16 a0 a1 1 h _ hf
  · refine k_ic_ne_t (pc := 8) (tgt := 15) w17 d_St_isSame_8 rfl ?_
    refine k_iconst (pc := 15) (zi_lit rfl) d_St_isSame_15 ?_
    exact b_St_isSame_16 a0 a1 0 h _ hf
theorem t_St_isSame {a0 : Nat} {a1 : Nat} {h : zH} {r : Int × zH} (hf : f_St_isSame a0 a1 h = some r) : zMt m_St_isSame [(2, ((a0 : Nat) : Int)), (2, ((a1 : Nat) : Int))] h (some (0, r.1), r.2) := zMt.of (by decide) (Nat.le_of_ble_eq_true rfl) (b_St_isSame_0 a0 a1 h r hf)
theorem b_SL_tokenizeFrom_111 (a0 : Nat) (a3 : Int) (h : zH) (r : Int × zH) (hf : f_SL_tokenizeFrom_111 a0 a3 h = some r) : zK m_SL_tokenizeFrom 111 [(0, (2, ((a0 : Nat) : Int))), (3, (0, a3))] [] h (some (0, r.1), r.2) := by
  unfold f_SL_tokenizeFrom_111 at hf
  refine k_aload_n (pc := 111) rfl z_m0 d_SL_tokenizeFrom_111 ?_
  refine k_dup (pc := 112) (Or.inr rfl) d_SL_tokenizeFrom_112 ?_
  obtain ⟨v1, e_v1, hf⟩ := z_bd hf
  refine k_getI (pc := 113) d_SL_tokenizeFrom_113 fd_SL_129 rfl e_v1 ?_
  refine k_iload_n (pc := 116) rfl z_m1 d_SL_tokenizeFrom_116 ?_
  refine k_iadd (pc := 117) d_SL_tokenizeFrom_117 ?_
  obtain ⟨h2, e_h2, hf⟩ := z_bd hf
  refine k_putI (pc := 118) d_SL_tokenizeFrom_118 fd_SL_129 (fun q => by cases q) rfl e_h2 ?_
  refine k_iload_n (pc := 121) rfl z_m1 d_SL_tokenizeFrom_121 ?_
  cases hf
  exact k_iret (pc := 122) d_SL_tokenizeFrom_122 rfl
theorem b_SL_tokenizeFrom_103 (c8 : Nat → Int → Int → Int → Int → zH → Option (Int × zH)) (k8 : ∀ (x0 : Nat) (x2 : Int) (x3 : Int) (x4 : Int) (x5 : Int) (g : zH) (r : Int × zH), c8 x0 x2 x3 x4 x5 g = some r → zK m_SL_tokenizeFrom 8 [(0, (2, ((x0 : Nat) : Int))), (2, (0, x2)), (3, (0, x3)), (4, (0, x4)), (5, (0, x5))] [] g (some (0, r.1), r.2)) (a0 : Nat) (a2 : Int) (a3 : Int) (a5 : Int) (s0 : Int) (h : zH) (r : Int × zH) (hf : f_SL_tokenizeFrom_103 c8 a0 a2 a3 a5 s0 h = some r) : zK m_SL_tokenizeFrom 103 [(0, (2, ((a0 : Nat) : Int))), (2, (0, a2)), (3, (0, a3)), (5, (0, a5))] [(0, s0)] h (some (0, r.1), r.2) := by
  unfold f_SL_tokenizeFrom_103 at hf
  refine k_istore (pc := 103) (L' := [(4, (0, s0)), (0, (2, ((a0 : Nat) : Int))), (2, (0, a2)), (3, (0, a3)), (5, (0, a5))]) d_SL_tokenizeFrom_103 (Nat.le_of_ble_eq_true rfl) rfl ?_
  refine k_iinc (pc := 105) (L' := [(5, (0, zw (a5 + 1))), (4, (0, s0)), (0, (2, ((a0 : Nat) : Int))), (2, (0, a2)), (3, (0, a3))]) z_m4 d_SL_tokenizeFrom_105 (Nat.le_of_ble_eq_true rfl) rfl ?_
  refine k_goto (pc := 108) (tgt := 8) d_SL_tokenizeFrom_108 rfl ?_
  refine k_sub [2, 3, 4, 1, 0] rfl ?_
  exact k8 a0 a2 a3 s0 (zw (a5 + 1)) h _ hf
theorem b_SL_tokenizeFrom_102 (c8 : Nat → Int → Int → Int → Int → zH → Option (Int × zH)) (k8 : ∀ (x0 : Nat) (x2 : Int) (x3 : Int) (x4 : Int) (x5 : Int) (g : zH) (r : Int × zH), c8 x0 x2 x3 x4 x5 g = some r → zK m_SL_tokenizeFrom 8 [(0, (2, ((x0 : Nat) : Int))), (2, (0, x2)), (3, (0, x3)), (4, (0, x4)), (5, (0, x5))] [] g (some (0, r.1), r.2)) (a0 : Nat) (a2 : Int) (a3 : Int) (a5 : Int) (h : zH) (r : Int × zH) (hf : f_SL_tokenizeFrom_102 c8 a0 a2 a3 a5 h = some r) : zK m_SL_tokenizeFrom 102 [(0, (2, ((a0 : Nat) : Int))), (2, (0, a2)), (3, (0, a3)), (5, (0, a5))] [] h (some (0, r.1), r.2) := by
  unfold f_SL_tokenizeFrom_102 at hf
  refine k_iconst (pc := 102) (zi_lit rfl) d_SL_tokenizeFrom_102 ?_
  exact b_SL_tokenizeFrom_103 c8 k8 a0 a2 a3 a5 0 h _ hf
theorem b_SL_tokenizeFrom_73 (c8 : Nat → Int → Int → Int → Int → zH → Option (Int × zH)) (k8 : ∀ (x0 : Nat) (x2 : Int) (x3 : Int) (x4 : Int) (x5 : Int) (g : zH) (r : Int × zH), c8 x0 x2 x3 x4 x5 g = some r → zK m_SL_tokenizeFrom 8 [(0, (2, ((x0 : Nat) : Int))), (2, (0, x2)), (3, (0, x3)), (4, (0, x4)), (5, (0, x5))] [] g (some (0, r.1), r.2)) (a0 : Nat) (a2 : Int) (a3 : Int) (a5 : Int) (a6 : Nat) (s0 : Nat) (s1 : Nat) (s2 : Nat) (h : zH) (r : Int × zH) (hf : f_SL_tokenizeFrom_73 c8 a0 a2 a3 a5 a6 s0 s1 s2 h = some r) : zK m_SL_tokenizeFrom 73 [(0, (2, ((a0 : Nat) : Int))), (2, (0, a2)), (3, (0, a3)), (5, (0, a5)), (6, (2, ((a6 : Nat) : Int)))] [(2, ((s2 : Nat) : Int)), (2, ((s1 : Nat) : Int)), (2, ((s0 : Nat) : Int))] h (some (0, r.1), r.2) := by
  unfold f_SL_tokenizeFrom_73 at hf
  obtain ⟨n3, e_n3, hf⟩ := z_bd hf
  obtain ⟨h4, e_h4, hf⟩ := z_bd hf
  refine k_callVv (pc := 73) (as := [(2, ((s1 : Nat) : Int)), (2, ((s2 : Nat) : Int))]) (rest := []) d_SL_tokenizeFrom_73 cw_SL_tokenizeFrom_203 rfl (Nat.le_of_ble_eq_true rfl) (z_ck_of e_n3) (t_Gr_tokenize e_h4) ?_
  refine k_iinc (pc := 76) (L' := [(3, (0, zw (a3 + 1))), (0, (2, ((a0 : Nat) : Int))), (2, (0, a2)), (5, (0, a5)), (6, (2, ((a6 : Nat) : Int)))]) z_m2 d_SL_tokenizeFrom_76 (Nat.le_of_ble_eq_true rfl) rfl ?_
  refine k_iload_n (pc := 79) rfl z_m2 d_SL_tokenizeFrom_79 ?_
  rcases z_it hf with ⟨w10, hf⟩ | ⟨w10, hf⟩
  · refine k_if_ne_f (pc := 80) (tgt := 102) w10 d_SL_tokenizeFrom_80 rfl ?_
    refine k_aload (pc := 83) z_m4 d_SL_tokenizeFrom_83 ?_
    obtain ⟨v5, e_v5, hf⟩ := z_bd hf
    refine k_getR (pc := 85) d_SL_tokenizeFrom_85 fd_SL_157 rfl e_v5 ?_
    refine k_aload_n (pc := 88) rfl z_m1 d_SL_tokenizeFrom_88 ?_
    obtain ⟨v6, e_v6, hf⟩ := z_bd hf
    refine k_getR (pc := 89) d_SL_tokenizeFrom_89 fd_SL_40 rfl e_v6 ?_
    obtain ⟨n7, e_n7, hf⟩ := z_bd hf
    obtain ⟨q8, e_q8, hf⟩ := z_bd hf
    refine k_callVi (pc := 92) (as := [(2, ((v6 : Nat) : Int))]) (rest := []) d_SL_tokenizeFrom_92 cw_SL_tokenizeFrom_207 rfl (Nat.le_of_ble_eq_true rfl) (z_ck_of e_n7) (t_St_isSame e_q8) ?_
    rcases z_it hf with ⟨w9, hf⟩ | ⟨w9, hf⟩
    · refine k_if_eq_t (pc := 95) (tgt := 102) w9 d_SL_tokenizeFrom_95 rfl ?_
      refine k_sub [1, 2, 0, 3] rfl ?_
      exact b_SL_tokenizeFrom_102 c8 k8 a0 a2 (zw (a3 + 1)) a5 q8.2 _ hf
    · refine k_if_eq_f (pc := 95) (tgt := 102) w9 d_SL_tokenizeFrom_95 rfl ?_
      refine k_iconst (pc := 98) (zi_lit rfl) d_SL_tokenizeFrom_98 ?_
      refine k_goto (pc := 99) (tgt := 103) d_SL_tokenizeFrom_99 rfl ?_
      refine k_sub [1, 2, 0, 3] rfl ?_
      exact b_SL_tokenizeFrom_103 c8 k8 a0 a2 (zw (a3 + 1)) a5 1 q8.2 _ hf
  · refine k_if_ne_t (pc := 80) (tgt := 102) w10 d_SL_tokenizeFrom_80 rfl ?_
    refine k_sub [1, 2, 0, 3] rfl ?_
    exact b_SL_tokenizeFrom_102 c8 k8 a0 a2 (zw (a3 + 1)) a5 h4 _ hf
theorem b_SL_tokenizeFrom_8 : ∀ (n : Nat) (a0 : Nat) (a2 : Int) (a3 : Int) (a4 : Int) (a5 : Int) (h : zH) (r : Int × zH), f_SL_tokenizeFrom_8 n a0 a2 a3 a4 a5 h = some r → zK m_SL_tokenizeFrom 8 [(0, (2, ((a0 : Nat) : Int))), (2, (0, a2)), (3, (0, a3)), (4, (0, a4)), (5, (0, a5))] [] h (some (0, r.1), r.2) := by
  intro n
  induction n with
  | zero =>
    intro a0 a2 a3 a4 a5 h r hf
    cases hf
  | succ n ih =>
    intro a0 a2 a3 a4 a5 h r hf
    unfold f_SL_tokenizeFrom_8 at hf
    refine k_iload (pc := 8) z_m4 d_SL_tokenizeFrom_8 ?_
    refine k_aload_n (pc := 10) rfl z_m0 d_SL_tokenizeFrom_10 ?_
    obtain ⟨v11, e_v11, hf⟩ := z_bd hf
    refine k_getI (pc := 11) d_SL_tokenizeFrom_11 fd_SL_119 rfl e_v11 ?_
    rcases z_it hf with ⟨w25, hf⟩ | ⟨w25, hf⟩
    · refine k_ic_ge_t (pc := 14) (tgt := 111) w25 d_SL_tokenizeFrom_14 rfl ?_
      refine k_sub [0, 2] rfl ?_
      exact b_SL_tokenizeFrom_111 a0 a3 h _ hf
    · refine k_ic_ge_f (pc := 14) (tgt := 111) w25 d_SL_tokenizeFrom_14 rfl ?_
      refine k_iload (pc := 17) z_m3 d_SL_tokenizeFrom_17 ?_
      rcases z_it hf with ⟨w24, hf⟩ | ⟨w24, hf⟩
      · refine k_if_ne_f (pc := 19) (tgt := 111) w24 d_SL_tokenizeFrom_19 rfl ?_
        refine k_aload_n (pc := 22) rfl z_m0 d_SL_tokenizeFrom_22 ?_
        obtain ⟨v12, e_v12, hf⟩ := z_bd hf
        refine k_getR (pc := 23) d_SL_tokenizeFrom_23 fd_SL_22 rfl e_v12 ?_
        refine k_iload (pc := 26) z_m4 d_SL_tokenizeFrom_26 ?_
        obtain ⟨v13, e_v13, hf⟩ := z_bd hf
        refine k_rald25 (pc := 28) d_SL_tokenizeFrom_28 e_v13 ?_
        refine k_astore (pc := 29) (L' := [(6, (2, ((v13 : Nat) : Int))), (0, (2, ((a0 : Nat) : Int))), (2, (0, a2)), (3, (0, a3)), (4, (0, a4)), (5, (0, a5))]) d_SL_tokenizeFrom_29 (Nat.le_of_ble_eq_true rfl) rfl ?_
        refine k_aload_n (pc := 31) rfl z_m1 d_SL_tokenizeFrom_31 ?_
        obtain ⟨v14, e_v14, hf⟩ := z_bd hf
        refine k_getR (pc := 32) d_SL_tokenizeFrom_32 fd_SL_40 rfl e_v14 ?_
        refine k_aload (pc := 35) z_m0 d_SL_tokenizeFrom_35 ?_
        obtain ⟨v15, e_v15, hf⟩ := z_bd hf
        refine k_getR (pc := 37) d_SL_tokenizeFrom_37 fd_SL_157 rfl e_v15 ?_
        obtain ⟨n16, e_n16, hf⟩ := z_bd hf
        obtain ⟨h17, e_h17, hf⟩ := z_bd hf
        refine k_callVv (pc := 40) (as := [(2, ((v15 : Nat) : Int))]) (rest := []) d_SL_tokenizeFrom_40 cw_SL_tokenizeFrom_199 rfl (Nat.le_of_ble_eq_true rfl) (z_ck_of e_n16) (t_St_copy e_h17) ?_
        refine k_aload_n (pc := 43) rfl z_m1 d_SL_tokenizeFrom_43 ?_
        obtain ⟨v18, e_v18, hf⟩ := z_bd hf
        refine k_getR (pc := 44) d_SL_tokenizeFrom_44 fd_SL_57 rfl e_v18 ?_
        refine k_aload (pc := 47) z_m0 d_SL_tokenizeFrom_47 ?_
        refine k_iload (pc := 49) z_m5 d_SL_tokenizeFrom_49 ?_
        rcases z_it hf with ⟨w23, hf⟩ | ⟨w23, hf⟩
        · refine k_if_ne_f (pc := 51) (tgt := 61) w23 d_SL_tokenizeFrom_51 rfl ?_
          refine k_aload_n (pc := 54) rfl z_m1 d_SL_tokenizeFrom_54 ?_
          obtain ⟨v22, e_v22, hf⟩ := z_bd hf
          refine k_getR (pc := 55) d_SL_tokenizeFrom_55 fd_SL_36 rfl e_v22 ?_
          refine k_goto (pc := 58) (tgt := 73) d_SL_tokenizeFrom_58 rfl ?_
          refine k_sub [1, 2, 3, 5, 0] rfl ?_
          exact b_SL_tokenizeFrom_73 (f_SL_tokenizeFrom_8 n) ih a0 a2 a3 a5 v13 v18 v13 v22 h17 _ hf
        · refine k_if_ne_t (pc := 51) (tgt := 61) w23 d_SL_tokenizeFrom_51 rfl ?_
          refine k_aload_n (pc := 61) rfl z_m1 d_SL_tokenizeFrom_61 ?_
          obtain ⟨v19, e_v19, hf⟩ := z_bd hf
          refine k_getR (pc := 62) d_SL_tokenizeFrom_62 fd_SL_22 rfl e_v19 ?_
          refine k_iload (pc := 65) z_m5 d_SL_tokenizeFrom_65 ?_
          refine k_iconst (pc := 67) (zi_lit rfl) d_SL_tokenizeFrom_67 ?_
          refine k_isub (pc := 68) d_SL_tokenizeFrom_68 ?_
          obtain ⟨v20, e_v20, hf⟩ := z_bd hf
          refine k_rald25 (pc := 69) d_SL_tokenizeFrom_69 e_v20 ?_
          obtain ⟨v21, e_v21, hf⟩ := z_bd hf
          refine k_getR (pc := 70) d_SL_tokenizeFrom_70 fd_SL_157 rfl e_v21 ?_
          refine k_sub [1, 2, 3, 5, 0] rfl ?_
          exact b_SL_tokenizeFrom_73 (f_SL_tokenizeFrom_8 n) ih a0 a2 a3 a5 v13 v18 v13 v21 h17 _ hf
      · refine k_if_ne_t (pc := 19) (tgt := 111) w24 d_SL_tokenizeFrom_19 rfl ?_
        refine k_sub [0, 2] rfl ?_
        exact b_SL_tokenizeFrom_111 a0 a3 h _ hf
theorem b_SL_tokenizeFrom_0 (a0 : Nat) (a1 : Int) (a2 : Int) (h : zH) (r : Int × zH) (hf : f_SL_tokenizeFrom a0 a1 a2 h = some r) : zK m_SL_tokenizeFrom 0 [(0, (2, ((a0 : Nat) : Int))), (1, (0, a1)), (2, (0, a2))] [] h (some (0, r.1), r.2) := by
  unfold f_SL_tokenizeFrom at hf
  refine k_iconst (pc := 0) (zi_lit rfl) d_SL_tokenizeFrom_0 ?_
  refine k_istore_n (pc := 1) (L' := [(3, (0, 0)), (0, (2, ((a0 : Nat) : Int))), (1, (0, a1)), (2, (0, a2))]) rfl d_SL_tokenizeFrom_1 (Nat.le_of_ble_eq_true rfl) rfl ?_
  refine k_iconst (pc := 2) (zi_lit rfl) d_SL_tokenizeFrom_2 ?_
  refine k_istore (pc := 3) (L' := [(4, (0, 0)), (3, (0, 0)), (0, (2, ((a0 : Nat) : Int))), (1, (0, a1)), (2, (0, a2))]) d_SL_tokenizeFrom_3 (Nat.le_of_ble_eq_true rfl) rfl ?_
  refine k_iload_n (pc := 5) rfl z_m3 d_SL_tokenizeFrom_5 ?_
  refine k_istore (pc := 6) (L' := [(5, (0, a1)), (4, (0, 0)), (3, (0, 0)), (0, (2, ((a0 : Nat) : Int))), (1, (0, a1)), (2, (0, a2))]) d_SL_tokenizeFrom_6 (Nat.le_of_ble_eq_true rfl) rfl ?_
  refine k_sub [3, 5, 2, 1, 0] rfl ?_
  exact b_SL_tokenizeFrom_8 100000 a0 a2 0 0 a1 h _ hf
theorem t_SL_tokenizeFrom {a0 : Nat} {a1 : Int} {a2 : Int} {h : zH} {r : Int × zH} (hf : f_SL_tokenizeFrom a0 a1 a2 h = some r) : zMt m_SL_tokenizeFrom [(2, ((a0 : Nat) : Int)), (0, a1), (0, a2)] h (some (0, r.1), r.2) := zMt.of (by decide) (Nat.le_of_ble_eq_true rfl) (b_SL_tokenizeFrom_0 a0 a1 a2 h r hf)
theorem b_SL_piece_0 (a0 : Nat) (a1 : Int) (a2 : Int) (h : zH) (r : Int × zH) (hf : f_SL_piece a0 a1 a2 h = some r) : zK m_SL_piece 0 [(0, (2, ((a0 : Nat) : Int))), (1, (0, a1)), (2, (0, a2))] [] h (some (0, r.1), r.2) := by
  unfold f_SL_piece at hf
  refine k_aload_n (pc := 0) rfl z_m0 d_SL_piece_0 ?_
  obtain ⟨v1, e_v1, hf⟩ := z_bd hf
  refine k_getR (pc := 1) d_SL_piece_1 fd_SL_57 rfl e_v1 ?_
  refine k_iload_n (pc := 4) rfl z_m1 d_SL_piece_4 ?_
  obtain ⟨n2, e_n2, hf⟩ := z_bd hf
  obtain ⟨q3, e_q3, hf⟩ := z_bd hf
  refine k_callVi (pc := 5) (as := [(0, a1)]) (rest := []) d_SL_piece_5 cw_SL_piece_66 rfl (Nat.le_of_ble_eq_true rfl) (z_ck_of e_n2) (t_Gr_isRange e_q3) ?_
  rcases z_it hf with ⟨w23, hf⟩ | ⟨w23, hf⟩
  · refine k_if_eq_t (pc := 8) (tgt := 18) w23 d_SL_piece_8 rfl ?_
    refine k_iconst (pc := 18) (zi_lit rfl) d_SL_piece_18 ?_
    cases hf
    exact k_iret (pc := 19) d_SL_piece_19 rfl
  · refine k_if_eq_f (pc := 8) (tgt := 18) w23 d_SL_piece_8 rfl ?_
    refine k_iload_n (pc := 11) rfl z_m2 d_SL_piece_11 ?_
    obtain ⟨q4, e_q4, hf⟩ := z_bd hf
    refine k_callSi (pc := 12) (as := [(0, a2)]) (rest := []) d_SL_piece_12 cw_SL_piece_70 rfl (Nat.le_of_ble_eq_true rfl) (t_SL_isScope e_q4) ?_
    rcases z_it hf with ⟨w22, hf⟩ | ⟨w22, hf⟩
    · refine k_if_ne_f (pc := 15) (tgt := 20) w22 d_SL_piece_15 rfl ?_
      refine k_iconst (pc := 18) (zi_lit rfl) d_SL_piece_18 ?_
      cases hf
      exact k_iret (pc := 19) d_SL_piece_19 rfl
    · refine k_if_ne_t (pc := 15) (tgt := 20) w22 d_SL_piece_15 rfl ?_
      refine k_aload_n (pc := 20) rfl z_m0 d_SL_piece_20 ?_
      obtain ⟨v5, e_v5, hf⟩ := z_bd hf
      refine k_getR (pc := 21) d_SL_piece_21 fd_SL_16 rfl e_v5 ?_
      refine k_aload_n (pc := 24) rfl z_m0 d_SL_piece_24 ?_
      obtain ⟨v6, e_v6, hf⟩ := z_bd hf
      refine k_getR (pc := 25) d_SL_piece_25 fd_SL_9 rfl e_v6 ?_
      refine k_iconst (pc := 28) (zi_lit rfl) d_SL_piece_28 ?_
      refine k_aload_n (pc := 29) rfl z_m0 d_SL_piece_29 ?_
      obtain ⟨v7, e_v7, hf⟩ := z_bd hf
      refine k_getI (pc := 30) d_SL_piece_30 fd_SL_62 rfl e_v7 ?_
      refine k_iconst (pc := 33) (zi_lit rfl) d_SL_piece_33 ?_
      refine k_aload_n (pc := 34) rfl z_m0 d_SL_piece_34 ?_
      obtain ⟨v8, e_v8, hf⟩ := z_bd hf
      refine k_getR (pc := 35) d_SL_piece_35 fd_SL_57 rfl e_v8 ?_
      obtain ⟨n9, e_n9, hf⟩ := z_bd hf
      obtain ⟨q10, e_q10, hf⟩ := z_bd hf
      refine k_callVr (pc := 38) (as := []) (rest := [(0, 0), (0, v7), (0, 0), (2, ((v6 : Nat) : Int)), (2, ((v5 : Nat) : Int))]) d_SL_piece_38 cw_SL_piece_73 rfl (Nat.le_of_ble_eq_true rfl) (z_ck_of e_n9) (t_Gr_nextRule e_q10) ?_
      obtain ⟨v11, e_v11, hf⟩ := z_bd hf
      refine k_getR (pc := 41) d_SL_piece_41 fd_SL_77 rfl e_v11 ?_
      obtain ⟨n12, e_n12, hf⟩ := z_bd hf
      obtain ⟨q13, e_q13, hf⟩ := z_bd hf
      refine k_callVi (pc := 44) (as := [(2, ((v6 : Nat) : Int)), (0, 0), (0, v7), (0, 0), (2, ((v11 : Nat) : Int))]) (rest := []) d_SL_piece_44 cw_SL_piece_83 rfl (Nat.le_of_ble_eq_true rfl) (z_ck_of e_n12) (t_Pr_parse e_q13) ?_
      rcases z_it hf with ⟨w21, hf⟩ | ⟨w21, hf⟩
      · refine k_if_ne_f (pc := 47) (tgt := 53) w21 d_SL_piece_47 rfl ?_
        refine k_bipush (pc := 50) (zi_lit rfl) (by decide) d_SL_piece_50 ?_
        cases hf
        exact k_iret (pc := 52) d_SL_piece_52 rfl
      · refine k_if_ne_t (pc := 47) (tgt := 53) w21 d_SL_piece_47 rfl ?_
        refine k_aload_n (pc := 53) rfl z_m0 d_SL_piece_53 ?_
        obtain ⟨v14, e_v14, hf⟩ := z_bd hf
        refine k_getR (pc := 54) d_SL_piece_54 fd_SL_57 rfl e_v14 ?_
        obtain ⟨v15, e_v15, hf⟩ := z_bd hf
        refine k_getI (pc := 57) d_SL_piece_57 fd_SL_87 rfl e_v15 ?_
        refine k_bipush (pc := 60) (zi_lit rfl) (by decide) d_SL_piece_60 ?_
        rcases z_it hf with ⟨w20, hf⟩ | ⟨w20, hf⟩
        · refine k_ic_ne_f (pc := 62) (tgt := 68) w20 d_SL_piece_62 rfl ?_
          refine k_bipush (pc := 65) (zi_lit rfl) (by decide) d_SL_piece_65 ?_
          cases hf
          exact k_iret (pc := 67) d_SL_piece_67 rfl
        · refine k_ic_ne_t (pc := 62) (tgt := 68) w20 d_SL_piece_62 rfl ?_
          refine k_aload_n (pc := 68) rfl z_m0 d_SL_piece_68 ?_
          refine k_iload_n (pc := 69) rfl z_m1 d_SL_piece_69 ?_
          refine k_iload_n (pc := 70) rfl z_m2 d_SL_piece_70 ?_
          refine k_iconst (pc := 71) (zi_lit rfl) d_SL_piece_71 ?_
          obtain ⟨n16, e_n16, hf⟩ := z_bd hf
          obtain ⟨q17, e_q17, hf⟩ := z_bd hf
          refine k_callVi (pc := 72) (as := [(0, a1), (0, a2), (0, 0)]) (rest := []) d_SL_piece_72 cw_SL_piece_90 rfl (Nat.le_of_ble_eq_true rfl) (z_ck_of e_n16) (t_SL_addRule e_q17) ?_
          refine k_istore_n (pc := 75) (L' := [(3, (0, q17.1)), (0, (2, ((a0 : Nat) : Int))), (1, (0, a1)), (2, (0, a2))]) rfl d_SL_piece_75 (Nat.le_of_ble_eq_true rfl) rfl ?_
          refine k_aload_n (pc := 76) rfl z_m1 d_SL_piece_76 ?_
          refine k_iconst (pc := 77) (zi_lit rfl) d_SL_piece_77 ?_
          refine k_iconst (pc := 78) (zi_lit rfl) d_SL_piece_78 ?_
          obtain ⟨n18, e_n18, hf⟩ := z_bd hf
          obtain ⟨q19, e_q19, hf⟩ := z_bd hf
          refine k_callVi (pc := 79) (as := [(0, 0), (0, 1)]) (rest := []) d_SL_piece_79 cw_SL_piece_94 rfl (Nat.le_of_ble_eq_true rfl) (z_ck_of e_n18) (t_SL_tokenizeFrom e_q19) ?_
          refine k_pop (pc := 82) (Or.inl rfl) d_SL_piece_82 ?_
          refine k_iload_n (pc := 83) rfl z_m0 d_SL_piece_83 ?_
          cases hf
          exact k_iret (pc := 84) d_SL_piece_84 rfl
theorem t_SL_piece {a0 : Nat} {a1 : Int} {a2 : Int} {h : zH} {r : Int × zH} (hf : f_SL_piece a0 a1 a2 h = some r) : zMt m_SL_piece [(2, ((a0 : Nat) : Int)), (0, a1), (0, a2)] h (some (0, r.1), r.2) := zMt.of (by decide) (Nat.le_of_ble_eq_true rfl) (b_SL_piece_0 a0 a1 a2 h r hf)
theorem b_SL_firstBlank_2 : ∀ (n : Nat) (a0 : Nat) (a1 : Int) (h : zH) (r : Int × zH), f_SL_firstBlank_2 n a0 a1 h = some r → zK m_SL_firstBlank 2 [(0, (2, ((a0 : Nat) : Int))), (1, (0, a1))] [] h (some (0, r.1), r.2) := by
  intro n
  induction n with
  | zero =>
    intro a0 a1 h r hf
    cases hf
  | succ n ih =>
    intro a0 a1 h r hf
    unfold f_SL_firstBlank_2 at hf
    refine k_iload_n (pc := 2) rfl z_m1 d_SL_firstBlank_2 ?_
    refine k_aload_n (pc := 3) rfl z_m0 d_SL_firstBlank_3 ?_
    obtain ⟨v1, e_v1, hf⟩ := z_bd hf
    refine k_getI (pc := 4) d_SL_firstBlank_4 fd_SL_62 rfl e_v1 ?_
    rcases z_it hf with ⟨w6, hf⟩ | ⟨w6, hf⟩
    · refine k_ic_ge_t (pc := 7) (tgt := 29) w6 d_SL_firstBlank_7 rfl ?_
      refine k_aload_n (pc := 29) rfl z_m0 d_SL_firstBlank_29 ?_
      obtain ⟨v2, e_v2, hf⟩ := z_bd hf
      refine k_getI (pc := 30) d_SL_firstBlank_30 fd_SL_62 rfl e_v2 ?_
      cases hf
      exact k_iret (pc := 33) d_SL_firstBlank_33 rfl
    · refine k_ic_ge_f (pc := 7) (tgt := 29) w6 d_SL_firstBlank_7 rfl ?_
      refine k_aload_n (pc := 10) rfl z_m0 d_SL_firstBlank_10 ?_
      obtain ⟨v3, e_v3, hf⟩ := z_bd hf
      refine k_getR (pc := 11) d_SL_firstBlank_11 fd_SL_9 rfl e_v3 ?_
      refine k_iload_n (pc := 14) rfl z_m1 d_SL_firstBlank_14 ?_
      obtain ⟨v4, e_v4, hf⟩ := z_bd hf
      refine k_cald (pc := 15) d_SL_firstBlank_15 e_v4 ?_
      refine k_bipush (pc := 16) (zi_lit rfl) (by decide) d_SL_firstBlank_16 ?_
      rcases z_it hf with ⟨w5, hf⟩ | ⟨w5, hf⟩
      · refine k_ic_ne_f (pc := 18) (tgt := 23) w5 d_SL_firstBlank_18 rfl ?_
        refine k_iload_n (pc := 21) rfl z_m1 d_SL_firstBlank_21 ?_
        cases hf
        exact k_iret (pc := 22) d_SL_firstBlank_22 rfl
      · refine k_ic_ne_t (pc := 18) (tgt := 23) w5 d_SL_firstBlank_18 rfl ?_
        refine k_iinc (pc := 23) (L' := [(1, (0, zw (a1 + 1))), (0, (2, ((a0 : Nat) : Int)))]) z_m1 d_SL_firstBlank_23 (Nat.le_of_ble_eq_true rfl) rfl ?_
        refine k_goto (pc := 26) (tgt := 2) d_SL_firstBlank_26 rfl ?_
        refine k_sub [1, 0] rfl ?_
        exact ih a0 (zw (a1 + 1)) h _ hf
theorem b_SL_firstBlank_0 (a0 : Nat) (h : zH) (r : Int × zH) (hf : f_SL_firstBlank a0 h = some r) : zK m_SL_firstBlank 0 [(0, (2, ((a0 : Nat) : Int)))] [] h (some (0, r.1), r.2) := by
  unfold f_SL_firstBlank at hf
  refine k_iconst (pc := 0) (zi_lit rfl) d_SL_firstBlank_0 ?_
  refine k_istore_n (pc := 1) (L' := [(1, (0, 0)), (0, (2, ((a0 : Nat) : Int)))]) rfl d_SL_firstBlank_1 (Nat.le_of_ble_eq_true rfl) rfl ?_
  refine k_sub [1, 0] rfl ?_
  exact b_SL_firstBlank_2 100000 a0 0 h _ hf
theorem t_SL_firstBlank {a0 : Nat} {h : zH} {r : Int × zH} (hf : f_SL_firstBlank a0 h = some r) : zMt m_SL_firstBlank [(2, ((a0 : Nat) : Int))] h (some (0, r.1), r.2) := zMt.of (by decide) (Nat.le_of_ble_eq_true rfl) (b_SL_firstBlank_0 a0 h r hf)
theorem b_SL_range_0 (a0 : Nat) (a1 : Int) (a2 : Int) (h : zH) (r : Int × zH) (hf : f_SL_range a0 a1 a2 h = some r) : zK m_SL_range 0 [(0, (2, ((a0 : Nat) : Int))), (1, (0, a1)), (2, (0, a2))] [] h (some (0, r.1), r.2) := by
  unfold f_SL_range at hf
  refine k_aload_n (pc := 0) rfl z_m0 d_SL_range_0 ?_
  obtain ⟨v1, e_v1, hf⟩ := z_bd hf
  refine k_getR (pc := 1) d_SL_range_1 fd_SL_57 rfl e_v1 ?_
  refine k_iload_n (pc := 4) rfl z_m1 d_SL_range_4 ?_
  obtain ⟨n2, e_n2, hf⟩ := z_bd hf
  obtain ⟨q3, e_q3, hf⟩ := z_bd hf
  refine k_callVi (pc := 5) (as := [(0, a1)]) (rest := []) d_SL_range_5 cw_SL_range_66 rfl (Nat.le_of_ble_eq_true rfl) (z_ck_of e_n2) (t_Gr_isRange e_q3) ?_
  rcases z_it hf with ⟨w31, hf⟩ | ⟨w31, hf⟩
  · refine k_if_eq_t (pc := 8) (tgt := 18) w31 d_SL_range_8 rfl ?_
    refine k_iconst (pc := 18) (zi_lit rfl) d_SL_range_18 ?_
    cases hf
    exact k_iret (pc := 19) d_SL_range_19 rfl
  · refine k_if_eq_f (pc := 8) (tgt := 18) w31 d_SL_range_8 rfl ?_
    refine k_iload_n (pc := 11) rfl z_m2 d_SL_range_11 ?_
    obtain ⟨q4, e_q4, hf⟩ := z_bd hf
    refine k_callSi (pc := 12) (as := [(0, a2)]) (rest := []) d_SL_range_12 cw_SL_range_70 rfl (Nat.le_of_ble_eq_true rfl) (t_SL_isScope e_q4) ?_
    rcases z_it hf with ⟨w30, hf⟩ | ⟨w30, hf⟩
    · refine k_if_ne_f (pc := 15) (tgt := 20) w30 d_SL_range_15 rfl ?_
      refine k_iconst (pc := 18) (zi_lit rfl) d_SL_range_18 ?_
      cases hf
      exact k_iret (pc := 19) d_SL_range_19 rfl
    · refine k_if_ne_t (pc := 15) (tgt := 20) w30 d_SL_range_15 rfl ?_
      refine k_aload_n (pc := 20) rfl z_m0 d_SL_range_20 ?_
      obtain ⟨v5, e_v5, hf⟩ := z_bd hf
      refine k_getR (pc := 21) d_SL_range_21 fd_SL_57 rfl e_v5 ?_
      obtain ⟨n6, e_n6, hf⟩ := z_bd hf
      obtain ⟨q7, e_q7, hf⟩ := z_bd hf
      refine k_callVr (pc := 24) (as := []) (rest := []) d_SL_range_24 cw_SL_range_73 rfl (Nat.le_of_ble_eq_true rfl) (z_ck_of e_n6) (t_Gr_nextRule e_q7) ?_
      refine k_astore_n (pc := 27) (L' := [(3, (2, ((q7.1 : Nat) : Int))), (0, (2, ((a0 : Nat) : Int))), (1, (0, a1)), (2, (0, a2))]) rfl d_SL_range_27 (Nat.le_of_ble_eq_true rfl) rfl ?_
      refine k_aload_n (pc := 28) rfl z_m1 d_SL_range_28 ?_
      obtain ⟨n8, e_n8, hf⟩ := z_bd hf
      obtain ⟨q9, e_q9, hf⟩ := z_bd hf
      refine k_callVi (pc := 29) (as := []) (rest := []) d_SL_range_29 cw_SL_range_98 rfl (Nat.le_of_ble_eq_true rfl) (z_ck_of e_n8) (t_SL_firstBlank e_q9) ?_
      refine k_istore (pc := 32) (L' := [(4, (0, q9.1)), (3, (2, ((q7.1 : Nat) : Int))), (0, (2, ((a0 : Nat) : Int))), (1, (0, a1)), (2, (0, a2))]) d_SL_range_32 (Nat.le_of_ble_eq_true rfl) rfl ?_
      refine k_aload_n (pc := 34) rfl z_m2 d_SL_range_34 ?_
      obtain ⟨v10, e_v10, hf⟩ := z_bd hf
      refine k_getR (pc := 35) d_SL_range_35 fd_SL_16 rfl e_v10 ?_
      refine k_aload_n (pc := 38) rfl z_m2 d_SL_range_38 ?_
      obtain ⟨v11, e_v11, hf⟩ := z_bd hf
      refine k_getR (pc := 39) d_SL_range_39 fd_SL_9 rfl e_v11 ?_
      refine k_iconst (pc := 42) (zi_lit rfl) d_SL_range_42 ?_
      refine k_iload (pc := 43) z_m0 d_SL_range_43 ?_
      refine k_iconst (pc := 45) (zi_lit rfl) d_SL_range_45 ?_
      refine k_aload_n (pc := 46) rfl z_m1 d_SL_range_46 ?_
      obtain ⟨v12, e_v12, hf⟩ := z_bd hf
      refine k_getR (pc := 47) d_SL_range_47 fd_SL_77 rfl e_v12 ?_
      obtain ⟨n13, e_n13, hf⟩ := z_bd hf
      obtain ⟨q14, e_q14, hf⟩ := z_bd hf
      refine k_callVi (pc := 50) (as := [(2, ((v11 : Nat) : Int)), (0, 0), (0, q9.1), (0, 0), (2, ((v12 : Nat) : Int))]) (rest := []) d_SL_range_50 cw_SL_range_83 rfl (Nat.le_of_ble_eq_true rfl) (z_ck_of e_n13) (t_Pr_parse e_q14) ?_
      rcases z_it hf with ⟨w29, hf⟩ | ⟨w29, hf⟩
      · refine k_if_eq_t (pc := 53) (tgt := 83) w29 d_SL_range_53 rfl ?_
        refine k_bipush (pc := 83) (zi_lit rfl) (by decide) d_SL_range_83 ?_
        cases hf
        exact k_iret (pc := 85) d_SL_range_85 rfl
      · refine k_if_eq_f (pc := 53) (tgt := 83) w29 d_SL_range_53 rfl ?_
        refine k_aload_n (pc := 56) rfl z_m2 d_SL_range_56 ?_
        obtain ⟨v15, e_v15, hf⟩ := z_bd hf
        refine k_getR (pc := 57) d_SL_range_57 fd_SL_16 rfl e_v15 ?_
        refine k_aload_n (pc := 60) rfl z_m2 d_SL_range_60 ?_
        obtain ⟨v16, e_v16, hf⟩ := z_bd hf
        refine k_getR (pc := 61) d_SL_range_61 fd_SL_9 rfl e_v16 ?_
        refine k_iload (pc := 64) z_m0 d_SL_range_64 ?_
        refine k_iconst (pc := 66) (zi_lit rfl) d_SL_range_66 ?_
        refine k_iadd (pc := 67) d_SL_range_67 ?_
        refine k_aload_n (pc := 68) rfl z_m2 d_SL_range_68 ?_
        obtain ⟨v17, e_v17, hf⟩ := z_bd hf
        refine k_getI (pc := 69) d_SL_range_69 fd_SL_62 rfl e_v17 ?_
        refine k_iconst (pc := 72) (zi_lit rfl) d_SL_range_72 ?_
        refine k_aload_n (pc := 73) rfl z_m1 d_SL_range_73 ?_
        obtain ⟨v18, e_v18, hf⟩ := z_bd hf
        refine k_getR (pc := 74) d_SL_range_74 fd_SL_102 rfl e_v18 ?_
        obtain ⟨n19, e_n19, hf⟩ := z_bd hf
        obtain ⟨q20, e_q20, hf⟩ := z_bd hf
        refine k_callVi (pc := 77) (as := [(2, ((v16 : Nat) : Int)), (0, zw (q9.1 + 1)), (0, v17), (0, 1), (2, ((v18 : Nat) : Int))]) (rest := []) d_SL_range_77 cw_SL_range_83 rfl (Nat.le_of_ble_eq_true rfl) (z_ck_of e_n19) (t_Pr_parse e_q20) ?_
        rcases z_it hf with ⟨w28, hf⟩ | ⟨w28, hf⟩
        · refine k_if_ne_f (pc := 80) (tgt := 86) w28 d_SL_range_80 rfl ?_
          refine k_bipush (pc := 83) (zi_lit rfl) (by decide) d_SL_range_83 ?_
          cases hf
          exact k_iret (pc := 85) d_SL_range_85 rfl
        · refine k_if_ne_t (pc := 80) (tgt := 86) w28 d_SL_range_80 rfl ?_
          refine k_aload_n (pc := 86) rfl z_m2 d_SL_range_86 ?_
          obtain ⟨v21, e_v21, hf⟩ := z_bd hf
          refine k_getR (pc := 87) d_SL_range_87 fd_SL_57 rfl e_v21 ?_
          obtain ⟨v22, e_v22, hf⟩ := z_bd hf
          refine k_getI (pc := 90) d_SL_range_90 fd_SL_87 rfl e_v22 ?_
          refine k_bipush (pc := 93) (zi_lit rfl) (by decide) d_SL_range_93 ?_
          rcases z_it hf with ⟨w27, hf⟩ | ⟨w27, hf⟩
          · refine k_ic_ne_f (pc := 95) (tgt := 101) w27 d_SL_range_95 rfl ?_
            refine k_bipush (pc := 98) (zi_lit rfl) (by decide) d_SL_range_98 ?_
            cases hf
            exact k_iret (pc := 100) d_SL_range_100 rfl
          · refine k_ic_ne_t (pc := 95) (tgt := 101) w27 d_SL_range_95 rfl ?_
            refine k_aload_n (pc := 101) rfl z_m2 d_SL_range_101 ?_
            refine k_iload_n (pc := 102) rfl z_m3 d_SL_range_102 ?_
            refine k_iload_n (pc := 103) rfl z_m4 d_SL_range_103 ?_
            refine k_iconst (pc := 104) (zi_lit rfl) d_SL_range_104 ?_
            obtain ⟨n23, e_n23, hf⟩ := z_bd hf
            obtain ⟨q24, e_q24, hf⟩ := z_bd hf
            refine k_callVi (pc := 105) (as := [(0, a1), (0, a2), (0, 1)]) (rest := []) d_SL_range_105 cw_SL_range_90 rfl (Nat.le_of_ble_eq_true rfl) (z_ck_of e_n23) (t_SL_addRule e_q24) ?_
            refine k_istore (pc := 108) (L' := [(5, (0, q24.1)), (4, (0, q9.1)), (3, (2, ((q7.1 : Nat) : Int))), (0, (2, ((a0 : Nat) : Int))), (1, (0, a1)), (2, (0, a2))]) d_SL_range_108 (Nat.le_of_ble_eq_true rfl) rfl ?_
            refine k_aload_n (pc := 110) rfl z_m3 d_SL_range_110 ?_
            refine k_iconst (pc := 111) (zi_lit rfl) d_SL_range_111 ?_
            refine k_iconst (pc := 112) (zi_lit rfl) d_SL_range_112 ?_
            obtain ⟨n25, e_n25, hf⟩ := z_bd hf
            obtain ⟨q26, e_q26, hf⟩ := z_bd hf
            refine k_callVi (pc := 113) (as := [(0, 0), (0, 1)]) (rest := []) d_SL_range_113 cw_SL_range_94 rfl (Nat.le_of_ble_eq_true rfl) (z_ck_of e_n25) (t_SL_tokenizeFrom e_q26) ?_
            refine k_pop (pc := 116) (Or.inl rfl) d_SL_range_116 ?_
            refine k_iload (pc := 117) z_m0 d_SL_range_117 ?_
            cases hf
            exact k_iret (pc := 119) d_SL_range_119 rfl
theorem t_SL_range {a0 : Nat} {a1 : Int} {a2 : Int} {h : zH} {r : Int × zH} (hf : f_SL_range a0 a1 a2 h = some r) : zMt m_SL_range [(2, ((a0 : Nat) : Int)), (0, a1), (0, a2)] h (some (0, r.1), r.2) := zMt.of (by decide) (Nat.le_of_ble_eq_true rfl) (b_SL_range_0 a0 a1 a2 h r hf)
theorem b_SL_include_0 (a0 : Nat) (a1 : Int) (a2 : Int) (h : zH) (r : Int × zH) (hf : f_SL_include a0 a1 a2 h = some r) : zK m_SL_include 0 [(0, (2, ((a0 : Nat) : Int))), (1, (0, a1)), (2, (0, a2))] [] h (some (0, r.1), r.2) := by
  unfold f_SL_include at hf
  refine k_aload_n (pc := 0) rfl z_m0 d_SL_include_0 ?_
  obtain ⟨v1, e_v1, hf⟩ := z_bd hf
  refine k_getR (pc := 1) d_SL_include_1 fd_SL_57 rfl e_v1 ?_
  refine k_iload_n (pc := 4) rfl z_m1 d_SL_include_4 ?_
  obtain ⟨n2, e_n2, hf⟩ := z_bd hf
  obtain ⟨q3, e_q3, hf⟩ := z_bd hf
  refine k_callVi (pc := 5) (as := [(0, a1)]) (rest := []) d_SL_include_5 cw_SL_include_66 rfl (Nat.le_of_ble_eq_true rfl) (z_ck_of e_n2) (t_Gr_isRange e_q3) ?_
  rcases z_it hf with ⟨w19, hf⟩ | ⟨w19, hf⟩
  · refine k_if_eq_t (pc := 8) (tgt := 38) w19 d_SL_include_8 rfl ?_
    refine k_iconst (pc := 38) (zi_lit rfl) d_SL_include_38 ?_
    cases hf
    exact k_zret (pc := 39) d_SL_include_39 rfl (Or.inl rfl)
  · refine k_if_eq_f (pc := 8) (tgt := 38) w19 d_SL_include_8 rfl ?_
    refine k_aload_n (pc := 11) rfl z_m0 d_SL_include_11 ?_
    obtain ⟨v4, e_v4, hf⟩ := z_bd hf
    refine k_getR (pc := 12) d_SL_include_12 fd_SL_57 rfl e_v4 ?_
    refine k_iload_n (pc := 15) rfl z_m2 d_SL_include_15 ?_
    obtain ⟨n5, e_n5, hf⟩ := z_bd hf
    obtain ⟨q6, e_q6, hf⟩ := z_bd hf
    refine k_callVi (pc := 16) (as := [(0, a2)]) (rest := []) d_SL_include_16 cw_SL_include_66 rfl (Nat.le_of_ble_eq_true rfl) (z_ck_of e_n5) (t_Gr_isRange e_q6) ?_
    rcases z_it hf with ⟨w18, hf⟩ | ⟨w18, hf⟩
    · refine k_if_eq_t (pc := 19) (tgt := 38) w18 d_SL_include_19 rfl ?_
      refine k_iconst (pc := 38) (zi_lit rfl) d_SL_include_38 ?_
      cases hf
      exact k_zret (pc := 39) d_SL_include_39 rfl (Or.inl rfl)
    · refine k_if_eq_f (pc := 19) (tgt := 38) w18 d_SL_include_19 rfl ?_
      refine k_aload_n (pc := 22) rfl z_m0 d_SL_include_22 ?_
      obtain ⟨v7, e_v7, hf⟩ := z_bd hf
      refine k_getR (pc := 23) d_SL_include_23 fd_SL_57 rfl e_v7 ?_
      obtain ⟨v8, e_v8, hf⟩ := z_bd hf
      refine k_getR (pc := 26) d_SL_include_26 fd_SL_105 rfl e_v8 ?_
      refine k_iload_n (pc := 29) rfl z_m1 d_SL_include_29 ?_
      obtain ⟨v9, e_v9, hf⟩ := z_bd hf
      refine k_rald24 (pc := 30) d_SL_include_30 e_v9 ?_
      obtain ⟨v10, e_v10, hf⟩ := z_bd hf
      refine k_getI (pc := 31) d_SL_include_31 fd_SL_109 rfl e_v10 ?_
      refine k_iload_n (pc := 34) rfl z_m2 d_SL_include_34 ?_
      rcases z_it hf with ⟨w17, hf⟩ | ⟨w17, hf⟩
      · refine k_ic_ne_f (pc := 35) (tgt := 40) w17 d_SL_include_35 rfl ?_
        refine k_iconst (pc := 38) (zi_lit rfl) d_SL_include_38 ?_
        cases hf
        exact k_zret (pc := 39) d_SL_include_39 rfl (Or.inl rfl)
      · refine k_ic_ne_t (pc := 35) (tgt := 40) w17 d_SL_include_35 rfl ?_
        refine k_aload_n (pc := 40) rfl z_m0 d_SL_include_40 ?_
        obtain ⟨v11, e_v11, hf⟩ := z_bd hf
        refine k_getR (pc := 41) d_SL_include_41 fd_SL_57 rfl e_v11 ?_
        obtain ⟨v12, e_v12, hf⟩ := z_bd hf
        refine k_getR (pc := 44) d_SL_include_44 fd_SL_105 rfl e_v12 ?_
        refine k_iload_n (pc := 47) rfl z_m1 d_SL_include_47 ?_
        obtain ⟨v13, e_v13, hf⟩ := z_bd hf
        refine k_rald24 (pc := 48) d_SL_include_48 e_v13 ?_
        refine k_iload_n (pc := 49) rfl z_m2 d_SL_include_49 ?_
        obtain ⟨h14, e_h14, hf⟩ := z_bd hf
        refine k_putI (pc := 50) d_SL_include_50 fd_SL_109 (fun q => by cases q) rfl e_h14 ?_
        refine k_aload_n (pc := 53) rfl z_m0 d_SL_include_53 ?_
        refine k_iconst (pc := 54) (zi_lit rfl) d_SL_include_54 ?_
        refine k_iconst (pc := 55) (zi_lit rfl) d_SL_include_55 ?_
        obtain ⟨n15, e_n15, hf⟩ := z_bd hf
        obtain ⟨q16, e_q16, hf⟩ := z_bd hf
        refine k_callVi (pc := 56) (as := [(0, 0), (0, 1)]) (rest := []) d_SL_include_56 cw_SL_include_94 rfl (Nat.le_of_ble_eq_true rfl) (z_ck_of e_n15) (t_SL_tokenizeFrom e_q16) ?_
        refine k_pop (pc := 59) (Or.inl rfl) d_SL_include_59 ?_
        refine k_iconst (pc := 60) (zi_lit rfl) d_SL_include_60 ?_
        cases hf
        exact k_zret (pc := 61) d_SL_include_61 rfl (Or.inr rfl)
theorem t_SL_include {a0 : Nat} {a1 : Int} {a2 : Int} {h : zH} {r : Int × zH} (hf : f_SL_include a0 a1 a2 h = some r) : zMt m_SL_include [(2, ((a0 : Nat) : Int)), (0, a1), (0, a2)] h (some (0, r.1), r.2) := zMt.of (by decide) (Nat.le_of_ble_eq_true rfl) (b_SL_include_0 a0 a1 a2 h r hf)
theorem b_Pa_add_0 (a0 : Nat) (a1 : Int) (a2 : Int) (a3 : Int) (h : zH) (r : zH) (hf : f_Pa_add a0 a1 a2 a3 h = some r) : zK m_Pa_add 0 [(0, (2, ((a0 : Nat) : Int))), (1, (0, a1)), (2, (0, a2)), (3, (0, a3))] [] h (none, r) := by
  unfold f_Pa_add at hf
  refine k_aload_n (pc := 0) rfl z_m0 d_Pa_add_0 ?_
  obtain ⟨v1, e_v1, hf⟩ := z_bd hf
  refine k_getR (pc := 1) d_Pa_add_1 fd_Pa_9 rfl e_v1 ?_
  refine k_aload_n (pc := 4) rfl z_m0 d_Pa_add_4 ?_
  obtain ⟨v2, e_v2, hf⟩ := z_bd hf
  refine k_getI (pc := 5) d_Pa_add_5 fd_Pa_21 rfl e_v2 ?_
  refine k_iload_n (pc := 8) rfl z_m1 d_Pa_add_8 ?_
  obtain ⟨h3, e_h3, hf⟩ := z_bd hf
  refine k_iast (pc := 9) d_Pa_add_9 e_h3 ?_
  refine k_aload_n (pc := 10) rfl z_m0 d_Pa_add_10 ?_
  obtain ⟨v4, e_v4, hf⟩ := z_bd hf
  refine k_getR (pc := 11) d_Pa_add_11 fd_Pa_15 rfl e_v4 ?_
  refine k_aload_n (pc := 14) rfl z_m0 d_Pa_add_14 ?_
  obtain ⟨v5, e_v5, hf⟩ := z_bd hf
  refine k_getI (pc := 15) d_Pa_add_15 fd_Pa_21 rfl e_v5 ?_
  refine k_iload_n (pc := 18) rfl z_m2 d_Pa_add_18 ?_
  obtain ⟨h6, e_h6, hf⟩ := z_bd hf
  refine k_iast (pc := 19) d_Pa_add_19 e_h6 ?_
  refine k_aload_n (pc := 20) rfl z_m0 d_Pa_add_20 ?_
  obtain ⟨v7, e_v7, hf⟩ := z_bd hf
  refine k_getR (pc := 21) d_Pa_add_21 fd_Pa_18 rfl e_v7 ?_
  refine k_aload_n (pc := 24) rfl z_m0 d_Pa_add_24 ?_
  obtain ⟨v8, e_v8, hf⟩ := z_bd hf
  refine k_getI (pc := 25) d_Pa_add_25 fd_Pa_21 rfl e_v8 ?_
  refine k_iload_n (pc := 28) rfl z_m3 d_Pa_add_28 ?_
  obtain ⟨h9, e_h9, hf⟩ := z_bd hf
  refine k_iast (pc := 29) d_Pa_add_29 e_h9 ?_
  refine k_aload_n (pc := 30) rfl z_m0 d_Pa_add_30 ?_
  refine k_dup (pc := 31) (Or.inr rfl) d_Pa_add_31 ?_
  obtain ⟨v10, e_v10, hf⟩ := z_bd hf
  refine k_getI (pc := 32) d_Pa_add_32 fd_Pa_21 rfl e_v10 ?_
  refine k_iconst (pc := 35) (zi_lit rfl) d_Pa_add_35 ?_
  refine k_iadd (pc := 36) d_Pa_add_36 ?_
  obtain ⟨h11, e_h11, hf⟩ := z_bd hf
  refine k_putI (pc := 37) d_Pa_add_37 fd_Pa_21 (fun q => by cases q) rfl e_h11 ?_
  cases hf
  exact k_ret (pc := 40) d_Pa_add_40 rfl
theorem t_Pa_add {a0 : Nat} {a1 : Int} {a2 : Int} {a3 : Int} {h : zH} {r : zH} (hf : f_Pa_add a0 a1 a2 a3 h = some r) : zMt m_Pa_add [(2, ((a0 : Nat) : Int)), (0, a1), (0, a2), (0, a3)] h (none, r) := zMt.of (by decide) (Nat.le_of_ble_eq_true rfl) (b_Pa_add_0 a0 a1 a2 a3 h r hf)
