/-! The bytecode comes to what the functions answer; printed by wip/gen/gen.py -/
theorem b_Pr_init_0 (a0 : Nat) (h : zH) (r : zH) (hf : f_Pr_init a0 h = some r) : zK m_Pr_init 0 [(0, (2, ((a0 : Nat) : Int)))] [] h (none, r) := by
  unfold f_Pr_init at hf
  refine k_aload_n (pc := 0) rfl z_m0 d_Pr_init_0 ?_
  refine k_obj (pc := 1) d_Pr_init_1 w_Pr_3 w_obj1 w_obj2 (by decide) (Nat.le_of_ble_eq_true rfl) ?_
  refine k_aload_n (pc := 4) rfl z_m0 d_Pr_init_4 ?_
  refine k_bipush (pc := 5) (zi_lit rfl) (by decide) d_Pr_init_5 ?_
  obtain ⟨h1, e_h1, hf⟩ := z_bd hf
  refine k_nwc (pc := 7) d_Pr_init_7 w_ac21 e_h1 ?_
  obtain ⟨h2, e_h2, hf⟩ := z_bd hf
  refine k_putR (pc := 9) (Or.inr ⟨_, rfl⟩) d_Pr_init_9 fd_Pr_9 (fun _ => ⟨rfl, _, _, rfl⟩) rfl e_h2 ?_
  refine k_aload_n (pc := 12) rfl z_m0 d_Pr_init_12 ?_
  refine k_iconst (pc := 13) (zi_lit rfl) d_Pr_init_13 ?_
  obtain ⟨h3, e_h3, hf⟩ := z_bd hf
  refine k_nwi (pc := 14) d_Pr_init_14 w_ac20 e_h3 ?_
  obtain ⟨h4, e_h4, hf⟩ := z_bd hf
  refine k_putR (pc := 16) (Or.inr ⟨_, rfl⟩) d_Pr_init_16 fd_Pr_15 (fun _ => ⟨rfl, _, _, rfl⟩) rfl e_h4 ?_
  refine k_aload_n (pc := 19) rfl z_m0 d_Pr_init_19 ?_
  refine k_iconst (pc := 20) (zi_lit rfl) d_Pr_init_20 ?_
  obtain ⟨h5, e_h5, hf⟩ := z_bd hf
  refine k_nwi (pc := 21) d_Pr_init_21 w_ac20 e_h5 ?_
  obtain ⟨h6, e_h6, hf⟩ := z_bd hf
  refine k_putR (pc := 23) (Or.inr ⟨_, rfl⟩) d_Pr_init_23 fd_Pr_19 (fun _ => ⟨rfl, _, _, rfl⟩) rfl e_h6 ?_
  refine k_aload_n (pc := 26) rfl z_m0 d_Pr_init_26 ?_
  refine k_iconst (pc := 27) (zi_lit rfl) d_Pr_init_27 ?_
  obtain ⟨h7, e_h7, hf⟩ := z_bd hf
  refine k_nwi (pc := 28) d_Pr_init_28 w_ac20 e_h7 ?_
  obtain ⟨h8, e_h8, hf⟩ := z_bd hf
  refine k_putR (pc := 30) (Or.inr ⟨_, rfl⟩) d_Pr_init_30 fd_Pr_22 (fun _ => ⟨rfl, _, _, rfl⟩) rfl e_h8 ?_
  refine k_aload_n (pc := 33) rfl z_m0 d_Pr_init_33 ?_
  refine k_iconst (pc := 34) (zi_lit rfl) d_Pr_init_34 ?_
  obtain ⟨h9, e_h9, hf⟩ := z_bd hf
  refine k_nwi (pc := 35) d_Pr_init_35 w_ac20 e_h9 ?_
  obtain ⟨h10, e_h10, hf⟩ := z_bd hf
  refine k_putR (pc := 37) (Or.inr ⟨_, rfl⟩) d_Pr_init_37 fd_Pr_25 (fun _ => ⟨rfl, _, _, rfl⟩) rfl e_h10 ?_
  refine k_aload_n (pc := 40) rfl z_m0 d_Pr_init_40 ?_
  refine k_iconst (pc := 41) (zi_lit rfl) d_Pr_init_41 ?_
  obtain ⟨h11, e_h11, hf⟩ := z_bd hf
  refine k_nwz (pc := 42) d_Pr_init_42 w_ac22 e_h11 ?_
  obtain ⟨h12, e_h12, hf⟩ := z_bd hf
  refine k_putR (pc := 44) (Or.inr ⟨_, rfl⟩) d_Pr_init_44 fd_Pr_28 (fun _ => ⟨rfl, _, _, rfl⟩) rfl e_h12 ?_
  refine k_aload_n (pc := 47) rfl z_m0 d_Pr_init_47 ?_
  refine k_iconst (pc := 48) (zi_lit rfl) d_Pr_init_48 ?_
  obtain ⟨h13, e_h13, hf⟩ := z_bd hf
  refine k_nwz (pc := 49) d_Pr_init_49 w_ac22 e_h13 ?_
  obtain ⟨h14, e_h14, hf⟩ := z_bd hf
  refine k_putR (pc := 51) (Or.inr ⟨_, rfl⟩) d_Pr_init_51 fd_Pr_32 (fun _ => ⟨rfl, _, _, rfl⟩) rfl e_h14 ?_
  cases hf
  exact k_ret (pc := 54) d_Pr_init_54 rfl
theorem t_Pr_init {a0 : Nat} {h : zH} {r : zH} (hf : f_Pr_init a0 h = some r) : zMt m_Pr_init [(2, ((a0 : Nat) : Int))] h (none, r) := zMt.of (by decide) (Nat.le_of_ble_eq_true rfl) (b_Pr_init_0 a0 h r hf)
theorem b_Pa_init_0 (a0 : Nat) (h : zH) (r : zH) (hf : f_Pa_init a0 h = some r) : zK m_Pa_init 0 [(0, (2, ((a0 : Nat) : Int)))] [] h (none, r) := by
  unfold f_Pa_init at hf
  refine k_aload_n (pc := 0) rfl z_m0 d_Pa_init_0 ?_
  refine k_obj (pc := 1) d_Pa_init_1 w_Pa_3 w_obj1 w_obj2 (by decide) (Nat.le_of_ble_eq_true rfl) ?_
  refine k_aload_n (pc := 4) rfl z_m0 d_Pa_init_4 ?_
  refine k_bipush (pc := 5) (zi_lit rfl) (by decide) d_Pa_init_5 ?_
  obtain ⟨h1, e_h1, hf⟩ := z_bd hf
  refine k_nwi (pc := 7) d_Pa_init_7 w_ac20 e_h1 ?_
  obtain ⟨h2, e_h2, hf⟩ := z_bd hf
  refine k_putR (pc := 9) (Or.inr ⟨_, rfl⟩) d_Pa_init_9 fd_Pa_9 (fun _ => ⟨rfl, _, _, rfl⟩) rfl e_h2 ?_
  refine k_aload_n (pc := 12) rfl z_m0 d_Pa_init_12 ?_
  refine k_bipush (pc := 13) (zi_lit rfl) (by decide) d_Pa_init_13 ?_
  obtain ⟨h3, e_h3, hf⟩ := z_bd hf
  refine k_nwi (pc := 15) d_Pa_init_15 w_ac20 e_h3 ?_
  obtain ⟨h4, e_h4, hf⟩ := z_bd hf
  refine k_putR (pc := 17) (Or.inr ⟨_, rfl⟩) d_Pa_init_17 fd_Pa_15 (fun _ => ⟨rfl, _, _, rfl⟩) rfl e_h4 ?_
  refine k_aload_n (pc := 20) rfl z_m0 d_Pa_init_20 ?_
  refine k_bipush (pc := 21) (zi_lit rfl) (by decide) d_Pa_init_21 ?_
  obtain ⟨h5, e_h5, hf⟩ := z_bd hf
  refine k_nwi (pc := 23) d_Pa_init_23 w_ac20 e_h5 ?_
  obtain ⟨h6, e_h6, hf⟩ := z_bd hf
  refine k_putR (pc := 25) (Or.inr ⟨_, rfl⟩) d_Pa_init_25 fd_Pa_18 (fun _ => ⟨rfl, _, _, rfl⟩) rfl e_h6 ?_
  cases hf
  exact k_ret (pc := 28) d_Pa_init_28 rfl
theorem t_Pa_init {a0 : Nat} {h : zH} {r : zH} (hf : f_Pa_init a0 h = some r) : zMt m_Pa_init [(2, ((a0 : Nat) : Int))] h (none, r) := zMt.of (by decide) (Nat.le_of_ble_eq_true rfl) (b_Pa_init_0 a0 h r hf)
theorem b_St_init_0 (a0 : Nat) (h : zH) (r : zH) (hf : f_St_init a0 h = some r) : zK m_St_init 0 [(0, (2, ((a0 : Nat) : Int)))] [] h (none, r) := by
  unfold f_St_init at hf
  refine k_aload_n (pc := 0) rfl z_m0 d_St_init_0 ?_
  refine k_obj (pc := 1) d_St_init_1 w_St_3 w_obj1 w_obj2 (by decide) (Nat.le_of_ble_eq_true rfl) ?_
  refine k_aload_n (pc := 4) rfl z_m0 d_St_init_4 ?_
  refine k_iconst (pc := 5) (zi_lit rfl) d_St_init_5 ?_
  obtain ⟨h1, e_h1, hf⟩ := z_bd hf
  refine k_nwi (pc := 6) d_St_init_6 w_ac20 e_h1 ?_
  obtain ⟨h2, e_h2, hf⟩ := z_bd hf
  refine k_putR (pc := 8) (Or.inr ⟨_, rfl⟩) d_St_init_8 fd_St_9 (fun _ => ⟨rfl, _, _, rfl⟩) rfl e_h2 ?_
  refine k_aload_n (pc := 11) rfl z_m0 d_St_init_11 ?_
  refine k_bipush (pc := 12) (zi_lit rfl) (by decide) d_St_init_12 ?_
  obtain ⟨h3, e_h3, hf⟩ := z_bd hf
  refine k_nwi (pc := 14) d_St_init_14 w_ac20 e_h3 ?_
  obtain ⟨h4, e_h4, hf⟩ := z_bd hf
  refine k_putR (pc := 16) (Or.inr ⟨_, rfl⟩) d_St_init_16 fd_St_15 (fun _ => ⟨rfl, _, _, rfl⟩) rfl e_h4 ?_
  refine k_aload_n (pc := 19) rfl z_m0 d_St_init_19 ?_
  refine k_sipush (pc := 20) (zi_lit rfl) (by decide) d_St_init_20 ?_
  obtain ⟨h5, e_h5, hf⟩ := z_bd hf
  refine k_nwc (pc := 23) d_St_init_23 w_ac21 e_h5 ?_
  obtain ⟨h6, e_h6, hf⟩ := z_bd hf
  refine k_putR (pc := 25) (Or.inr ⟨_, rfl⟩) d_St_init_25 fd_St_18 (fun _ => ⟨rfl, _, _, rfl⟩) rfl e_h6 ?_
  cases hf
  exact k_ret (pc := 28) d_St_init_28 rfl
theorem t_St_init {a0 : Nat} {h : zH} {r : zH} (hf : f_St_init a0 h = some r) : zMt m_St_init [(2, ((a0 : Nat) : Int))] h (none, r) := zMt.of (by decide) (Nat.le_of_ble_eq_true rfl) (b_St_init_0 a0 h r hf)
theorem b_Se_init_0 (a0 : Nat) (a1 : Int) (h : zH) (r : zH) (hf : f_Se_init a0 a1 h = some r) : zK m_Se_init 0 [(0, (2, ((a0 : Nat) : Int))), (1, (0, a1))] [] h (none, r) := by
  unfold f_Se_init at hf
  refine k_aload_n (pc := 0) rfl z_m0 d_Se_init_0 ?_
  refine k_obj (pc := 1) d_Se_init_1 w_Se_5 w_obj1 w_obj2 (by decide) (Nat.le_of_ble_eq_true rfl) ?_
  refine k_aload_n (pc := 4) rfl z_m0 d_Se_init_4 ?_
  refine k_bipush (pc := 5) (zi_lit rfl) (by decide) d_Se_init_5 ?_
  obtain ⟨h1, e_h1, hf⟩ := z_bd hf
  refine k_nwi (pc := 7) d_Se_init_7 w_ac20 e_h1 ?_
  obtain ⟨h2, e_h2, hf⟩ := z_bd hf
  refine k_putR (pc := 9) (Or.inr ⟨_, rfl⟩) d_Se_init_9 fd_Se_11 (fun _ => ⟨rfl, _, _, rfl⟩) rfl e_h2 ?_
  refine k_aload_n (pc := 12) rfl z_m0 d_Se_init_12 ?_
  refine k_sipush (pc := 13) (zi_lit rfl) (by decide) d_Se_init_13 ?_
  obtain ⟨h3, e_h3, hf⟩ := z_bd hf
  refine k_nwi (pc := 16) d_Se_init_16 w_ac20 e_h3 ?_
  obtain ⟨h4, e_h4, hf⟩ := z_bd hf
  refine k_putR (pc := 18) (Or.inr ⟨_, rfl⟩) d_Se_init_18 fd_Se_17 (fun _ => ⟨rfl, _, _, rfl⟩) rfl e_h4 ?_
  refine k_aload_n (pc := 21) rfl z_m0 d_Se_init_21 ?_
  refine k_sipush (pc := 22) (zi_lit rfl) (by decide) d_Se_init_22 ?_
  obtain ⟨h5, e_h5, hf⟩ := z_bd hf
  refine k_nwi (pc := 25) d_Se_init_25 w_ac20 e_h5 ?_
  obtain ⟨h6, e_h6, hf⟩ := z_bd hf
  refine k_putR (pc := 27) (Or.inr ⟨_, rfl⟩) d_Se_init_27 fd_Se_20 (fun _ => ⟨rfl, _, _, rfl⟩) rfl e_h6 ?_
  refine k_aload_n (pc := 30) rfl z_m0 d_Se_init_30 ?_
  refine k_iload_n (pc := 31) rfl z_m1 d_Se_init_31 ?_
  obtain ⟨h7, e_h7, hf⟩ := z_bd hf
  refine k_putI (pc := 32) d_Se_init_32 fd_Se_23 (fun _ => ⟨rfl, _, _, rfl⟩) rfl e_h7 ?_
  cases hf
  exact k_ret (pc := 35) d_Se_init_35 rfl
theorem t_Se_init {a0 : Nat} {a1 : Int} {h : zH} {r : zH} (hf : f_Se_init a0 a1 h = some r) : zMt m_Se_init [(2, ((a0 : Nat) : Int)), (0, a1)] h (none, r) := zMt.of (by decide) (Nat.le_of_ble_eq_true rfl) (b_Se_init_0 a0 a1 h r hf)
theorem b_Pt_init_0 (a0 : Nat) (h : zH) (r : zH) (hf : f_Pt_init a0 h = some r) : zK m_Pt_init 0 [(0, (2, ((a0 : Nat) : Int)))] [] h (none, r) := by
  unfold f_Pt_init at hf
  refine k_aload_n (pc := 0) rfl z_m0 d_Pt_init_0 ?_
  refine k_obj (pc := 1) d_Pt_init_1 w_Pt_3 w_obj1 w_obj2 (by decide) (Nat.le_of_ble_eq_true rfl) ?_
  refine k_aload_n (pc := 4) rfl z_m0 d_Pt_init_4 ?_
  refine k_bipush (pc := 5) (zi_lit rfl) (by decide) d_Pt_init_5 ?_
  obtain ⟨h1, e_h1, hf⟩ := z_bd hf
  refine k_nwi (pc := 7) d_Pt_init_7 w_ac20 e_h1 ?_
  obtain ⟨h2, e_h2, hf⟩ := z_bd hf
  refine k_putR (pc := 9) (Or.inr ⟨_, rfl⟩) d_Pt_init_9 fd_Pt_11 (fun _ => ⟨rfl, _, _, rfl⟩) rfl e_h2 ?_
  refine k_aload_n (pc := 12) rfl z_m0 d_Pt_init_12 ?_
  refine k_bipush (pc := 13) (zi_lit rfl) (by decide) d_Pt_init_13 ?_
  obtain ⟨h3, e_h3, hf⟩ := z_bd hf
  refine k_nwi (pc := 15) d_Pt_init_15 w_ac20 e_h3 ?_
  obtain ⟨h4, e_h4, hf⟩ := z_bd hf
  refine k_putR (pc := 17) (Or.inr ⟨_, rfl⟩) d_Pt_init_17 fd_Pt_15 (fun _ => ⟨rfl, _, _, rfl⟩) rfl e_h4 ?_
  refine k_aload_n (pc := 20) rfl z_m0 d_Pt_init_20 ?_
  refine k_bipush (pc := 21) (zi_lit rfl) (by decide) d_Pt_init_21 ?_
  obtain ⟨h5, e_h5, hf⟩ := z_bd hf
  refine k_nwi (pc := 23) d_Pt_init_23 w_ac20 e_h5 ?_
  obtain ⟨h6, e_h6, hf⟩ := z_bd hf
  refine k_putR (pc := 25) (Or.inr ⟨_, rfl⟩) d_Pt_init_25 fd_Pt_18 (fun _ => ⟨rfl, _, _, rfl⟩) rfl e_h6 ?_
  refine k_aload_n (pc := 28) rfl z_m0 d_Pt_init_28 ?_
  refine k_bipush (pc := 29) (zi_lit rfl) (by decide) d_Pt_init_29 ?_
  obtain ⟨h7, e_h7, hf⟩ := z_bd hf
  refine k_nwl (pc := 31) d_Pt_init_31 w_ac23 e_h7 ?_
  obtain ⟨h8, e_h8, hf⟩ := z_bd hf
  refine k_putR (pc := 33) (Or.inr ⟨_, rfl⟩) d_Pt_init_33 fd_Pt_21 (fun _ => ⟨rfl, _, _, rfl⟩) rfl e_h8 ?_
  refine k_aload_n (pc := 36) rfl z_m0 d_Pt_init_36 ?_
  refine k_bipush (pc := 37) (zi_lit rfl) (by decide) d_Pt_init_37 ?_
  obtain ⟨h9, e_h9, hf⟩ := z_bd hf
  refine k_nwl (pc := 39) d_Pt_init_39 w_ac23 e_h9 ?_
  obtain ⟨h10, e_h10, hf⟩ := z_bd hf
  refine k_putR (pc := 41) (Or.inr ⟨_, rfl⟩) d_Pt_init_41 fd_Pt_25 (fun _ => ⟨rfl, _, _, rfl⟩) rfl e_h10 ?_
  cases hf
  exact k_ret (pc := 44) d_Pt_init_44 rfl
theorem t_Pt_init {a0 : Nat} {h : zH} {r : zH} (hf : f_Pt_init a0 h = some r) : zMt m_Pt_init [(2, ((a0 : Nat) : Int))] h (none, r) := zMt.of (by decide) (Nat.le_of_ble_eq_true rfl) (b_Pt_init_0 a0 h r hf)
theorem b_Ru_init_0 (a0 : Nat) (h : zH) (r : zH) (hf : f_Ru_init a0 h = some r) : zK m_Ru_init 0 [(0, (2, ((a0 : Nat) : Int)))] [] h (none, r) := by
  unfold f_Ru_init at hf
  refine k_aload_n (pc := 0) rfl z_m0 d_Ru_init_0 ?_
  refine k_obj (pc := 1) d_Ru_init_1 w_Ru_3 w_obj1 w_obj2 (by decide) (Nat.le_of_ble_eq_true rfl) ?_
  refine k_aload_n (pc := 4) rfl z_m0 d_Ru_init_4 ?_
  refine k_new (pc := 5) d_Ru_init_5 nw_Ru_9 ?_
  refine k_dup (pc := 8) (Or.inr rfl) d_Ru_init_8 ?_
  obtain ⟨h1, e_h1, hf⟩ := z_bd hf
  refine k_callIv (pc := 9) (as := []) (rest := [(2, ((h.1.length : Nat) : Int)), (2, ((a0 : Nat) : Int))]) d_Ru_init_9 cw_Ru_init_11 rfl (Nat.le_of_ble_eq_true rfl) (t_Pt_init e_h1) ?_
  obtain ⟨h2, e_h2, hf⟩ := z_bd hf
  refine k_putR (pc := 12) (Or.inl ⟨_, rfl⟩) d_Ru_init_12 fd_Ru_12 (fun _ => ⟨rfl, _, _, rfl⟩) rfl e_h2 ?_
  refine k_aload_n (pc := 15) rfl z_m0 d_Ru_init_15 ?_
  refine k_new (pc := 16) d_Ru_init_16 nw_Ru_9 ?_
  refine k_dup (pc := 19) (Or.inr rfl) d_Ru_init_19 ?_
  obtain ⟨h3, e_h3, hf⟩ := z_bd hf
  refine k_callIv (pc := 20) (as := []) (rest := [(2, ((h2.1.length : Nat) : Int)), (2, ((a0 : Nat) : Int))]) d_Ru_init_20 cw_Ru_init_11 rfl (Nat.le_of_ble_eq_true rfl) (t_Pt_init e_h3) ?_
  obtain ⟨h4, e_h4, hf⟩ := z_bd hf
  refine k_putR (pc := 23) (Or.inl ⟨_, rfl⟩) d_Ru_init_23 fd_Ru_18 (fun _ => ⟨rfl, _, _, rfl⟩) rfl e_h4 ?_
  refine k_aload_n (pc := 26) rfl z_m0 d_Ru_init_26 ?_
  refine k_iconst (pc := 27) (zi_lit rfl) d_Ru_init_27 ?_
  obtain ⟨h5, e_h5, hf⟩ := z_bd hf
  refine k_putI (pc := 28) d_Ru_init_28 fd_Ru_21 (fun q => by cases q) rfl e_h5 ?_
  cases hf
  exact k_ret (pc := 31) d_Ru_init_31 rfl
theorem t_Ru_init {a0 : Nat} {h : zH} {r : zH} (hf : f_Ru_init a0 h = some r) : zMt m_Ru_init [(2, ((a0 : Nat) : Int))] h (none, r) := zMt.of (by decide) (Nat.le_of_ble_eq_true rfl) (b_Ru_init_0 a0 h r hf)
theorem b_Gr_init_54 : ∀ (n : Nat) (a0 : Nat) (a2 : Int) (h : zH) (r : zH), f_Gr_init_54 n a0 a2 h = some r → zK m_Gr_init 54 [(0, (2, ((a0 : Nat) : Int))), (2, (0, a2))] [] h (none, r) := by
  intro n
  induction n with
  | zero =>
    intro a0 a2 h r hf
    cases hf
  | succ n ih =>
    intro a0 a2 h r hf
    unfold f_Gr_init_54 at hf
    refine k_iload_n (pc := 54) rfl z_m1 d_Gr_init_54 ?_
    refine k_aload_n (pc := 55) rfl z_m0 d_Gr_init_55 ?_
    obtain ⟨v1, e_v1, hf⟩ := z_bd hf
    refine k_getR (pc := 56) d_Gr_init_56 fd_Gr_11 rfl e_v1 ?_
    obtain ⟨v2, e_v2, hf⟩ := z_bd hf
    refine k_alen (pc := 59) (by decide) d_Gr_init_59 e_v2 ?_
    rcases z_it hf with ⟨w9, hf⟩ | ⟨w9, hf⟩
    · refine k_ic_ge_t (pc := 60) (tgt := 82) w9 d_Gr_init_60 rfl ?_
      refine k_aload_n (pc := 82) rfl z_m0 d_Gr_init_82 ?_
      obtain ⟨v3, e_v3, hf⟩ := z_bd hf
      refine k_getR (pc := 83) d_Gr_init_83 fd_Gr_11 rfl e_v3 ?_
      refine k_iconst (pc := 86) (zi_lit rfl) d_Gr_init_86 ?_
      obtain ⟨v4, e_v4, hf⟩ := z_bd hf
      refine k_rald24 (pc := 87) d_Gr_init_87 e_v4 ?_
      refine k_iconst (pc := 88) (zi_lit rfl) d_Gr_init_88 ?_
      obtain ⟨h5, e_h5, hf⟩ := z_bd hf
      refine k_putZ (pc := 89) d_Gr_init_89 fd_Gr_41 (fun q => by cases q) rfl e_h5 ?_
      cases hf
      exact k_ret (pc := 92) d_Gr_init_92 rfl
    · refine k_ic_ge_f (pc := 60) (tgt := 82) w9 d_Gr_init_60 rfl ?_
      refine k_aload_n (pc := 63) rfl z_m0 d_Gr_init_63 ?_
      obtain ⟨v6, e_v6, hf⟩ := z_bd hf
      refine k_getR (pc := 64) d_Gr_init_64 fd_Gr_11 rfl e_v6 ?_
      refine k_iload_n (pc := 67) rfl z_m1 d_Gr_init_67 ?_
      refine k_new (pc := 68) d_Gr_init_68 nw_Gr_9 ?_
      refine k_dup (pc := 71) (Or.inr rfl) d_Gr_init_71 ?_
      obtain ⟨h7, e_h7, hf⟩ := z_bd hf
      refine k_callIv (pc := 72) (as := []) (rest := [(2, ((h.1.length : Nat) : Int)), (0, a2), (2, ((v6 : Nat) : Int))]) d_Gr_init_72 cw_Gr_init_40 rfl (Nat.le_of_ble_eq_true rfl) (t_Ru_init e_h7) ?_
      obtain ⟨h8, e_h8, hf⟩ := z_bd hf
      refine k_rast24 (pc := 75) rfl (by decide) d_Gr_init_75 e_h8 ?_
      refine k_iinc (pc := 76) (L' := [(2, (0, zw (a2 + 1))), (0, (2, ((a0 : Nat) : Int)))]) z_m1 d_Gr_init_76 (Nat.le_of_ble_eq_true rfl) rfl ?_
      refine k_goto (pc := 79) (tgt := 54) d_Gr_init_79 rfl ?_
      refine k_sub [1, 0] rfl ?_
      exact ih a0 (zw (a2 + 1)) h8 _ hf
theorem b_Gr_init_0 (a0 : Nat) (a1 : Int) (h : zH) (r : zH) (hf : f_Gr_init a0 a1 h = some r) : zK m_Gr_init 0 [(0, (2, ((a0 : Nat) : Int))), (1, (0, a1))] [] h (none, r) := by
  unfold f_Gr_init at hf
  refine k_aload_n (pc := 0) rfl z_m0 d_Gr_init_0 ?_
  refine k_obj (pc := 1) d_Gr_init_1 w_Gr_3 w_obj1 w_obj2 (by decide) (Nat.le_of_ble_eq_true rfl) ?_
  refine k_aload_n (pc := 4) rfl z_m0 d_Gr_init_4 ?_
  refine k_bipush (pc := 5) (zi_lit rfl) (by decide) d_Gr_init_5 ?_
  obtain ⟨h10, e_h10, hf⟩ := z_bd hf
  refine k_nwR (pc := 7) d_Gr_init_7 w_Gr_9 e_h10 ?_
  obtain ⟨h11, e_h11, hf⟩ := z_bd hf
  refine k_putR (pc := 10) (Or.inr ⟨_, rfl⟩) d_Gr_init_10 fd_Gr_11 (fun _ => ⟨rfl, _, _, rfl⟩) rfl e_h11 ?_
  refine k_aload_n (pc := 13) rfl z_m0 d_Gr_init_13 ?_
  refine k_new (pc := 14) d_Gr_init_14 nw_Gr_17 ?_
  refine k_dup (pc := 17) (Or.inr rfl) d_Gr_init_17 ?_
  obtain ⟨h12, e_h12, hf⟩ := z_bd hf
  refine k_callIv (pc := 18) (as := []) (rest := [(2, ((h11.1.length : Nat) : Int)), (2, ((a0 : Nat) : Int))]) d_Gr_init_18 cw_Gr_init_19 rfl (Nat.le_of_ble_eq_true rfl) (t_St_init e_h12) ?_
  obtain ⟨h13, e_h13, hf⟩ := z_bd hf
  refine k_putR (pc := 21) (Or.inl ⟨_, rfl⟩) d_Gr_init_21 fd_Gr_20 (fun _ => ⟨rfl, _, _, rfl⟩) rfl e_h13 ?_
  refine k_aload_n (pc := 24) rfl z_m0 d_Gr_init_24 ?_
  refine k_bipush (pc := 25) (zi_lit rfl) (by decide) d_Gr_init_25 ?_
  obtain ⟨h14, e_h14, hf⟩ := z_bd hf
  refine k_nwi (pc := 27) d_Gr_init_27 w_ac20 e_h14 ?_
  obtain ⟨h15, e_h15, hf⟩ := z_bd hf
  refine k_putR (pc := 29) (Or.inr ⟨_, rfl⟩) d_Gr_init_29 fd_Gr_24 (fun _ => ⟨rfl, _, _, rfl⟩) rfl e_h15 ?_
  refine k_aload_n (pc := 32) rfl z_m0 d_Gr_init_32 ?_
  refine k_bipush (pc := 33) (zi_lit rfl) (by decide) d_Gr_init_33 ?_
  obtain ⟨h16, e_h16, hf⟩ := z_bd hf
  refine k_nwi (pc := 35) d_Gr_init_35 w_ac20 e_h16 ?_
  obtain ⟨h17, e_h17, hf⟩ := z_bd hf
  refine k_putR (pc := 37) (Or.inr ⟨_, rfl⟩) d_Gr_init_37 fd_Gr_28 (fun _ => ⟨rfl, _, _, rfl⟩) rfl e_h17 ?_
  refine k_aload_n (pc := 40) rfl z_m0 d_Gr_init_40 ?_
  refine k_new (pc := 41) d_Gr_init_41 nw_Gr_31 ?_
  refine k_dup (pc := 44) (Or.inr rfl) d_Gr_init_44 ?_
  refine k_iload_n (pc := 45) rfl z_m1 d_Gr_init_45 ?_
  obtain ⟨h18, e_h18, hf⟩ := z_bd hf
  refine k_callIv (pc := 46) (as := [(0, a1)]) (rest := [(2, ((h17.1.length : Nat) : Int)), (2, ((a0 : Nat) : Int))]) d_Gr_init_46 cw_Gr_init_33 rfl (Nat.le_of_ble_eq_true rfl) (t_Se_init e_h18) ?_
  obtain ⟨h19, e_h19, hf⟩ := z_bd hf
  refine k_putR (pc := 49) (Or.inl ⟨_, rfl⟩) d_Gr_init_49 fd_Gr_36 (fun _ => ⟨rfl, _, _, rfl⟩) rfl e_h19 ?_
  refine k_iconst (pc := 52) (zi_lit rfl) d_Gr_init_52 ?_
  refine k_istore_n (pc := 53) (L' := [(2, (0, 0)), (0, (2, ((a0 : Nat) : Int))), (1, (0, a1))]) rfl d_Gr_init_53 (Nat.le_of_ble_eq_true rfl) rfl ?_
  refine k_sub [1, 0] rfl ?_
  exact b_Gr_init_54 100000 a0 0 h19 _ hf
theorem t_Gr_init {a0 : Nat} {a1 : Int} {h : zH} {r : zH} (hf : f_Gr_init a0 a1 h = some r) : zMt m_Gr_init [(2, ((a0 : Nat) : Int)), (0, a1)] h (none, r) := zMt.of (by decide) (Nat.le_of_ble_eq_true rfl) (b_Gr_init_0 a0 a1 h r hf)
theorem b_Li_init_0 (a0 : Nat) (h : zH) (r : zH) (hf : f_Li_init a0 h = some r) : zK m_Li_init 0 [(0, (2, ((a0 : Nat) : Int)))] [] h (none, r) := by
  unfold f_Li_init at hf
  refine k_aload_n (pc := 0) rfl z_m0 d_Li_init_0 ?_
  refine k_obj (pc := 1) d_Li_init_1 w_Li_3 w_obj1 w_obj2 (by decide) (Nat.le_of_ble_eq_true rfl) ?_
  refine k_aload_n (pc := 4) rfl z_m0 d_Li_init_4 ?_
  refine k_bipush (pc := 5) (zi_lit rfl) (by decide) d_Li_init_5 ?_
  obtain ⟨h1, e_h1, hf⟩ := z_bd hf
  refine k_nwc (pc := 7) d_Li_init_7 w_ac21 e_h1 ?_
  obtain ⟨h2, e_h2, hf⟩ := z_bd hf
  refine k_putR (pc := 9) (Or.inr ⟨_, rfl⟩) d_Li_init_9 fd_Li_9 (fun _ => ⟨rfl, _, _, rfl⟩) rfl e_h2 ?_
  refine k_aload_n (pc := 12) rfl z_m0 d_Li_init_12 ?_
  refine k_bipush (pc := 13) (zi_lit rfl) (by decide) d_Li_init_13 ?_
  obtain ⟨h3, e_h3, hf⟩ := z_bd hf
  refine k_nwi (pc := 15) d_Li_init_15 w_ac20 e_h3 ?_
  obtain ⟨h4, e_h4, hf⟩ := z_bd hf
  refine k_putR (pc := 17) (Or.inr ⟨_, rfl⟩) d_Li_init_17 fd_Li_15 (fun _ => ⟨rfl, _, _, rfl⟩) rfl e_h4 ?_
  refine k_aload_n (pc := 20) rfl z_m0 d_Li_init_20 ?_
  refine k_bipush (pc := 21) (zi_lit rfl) (by decide) d_Li_init_21 ?_
  obtain ⟨h5, e_h5, hf⟩ := z_bd hf
  refine k_nwi (pc := 23) d_Li_init_23 w_ac20 e_h5 ?_
  obtain ⟨h6, e_h6, hf⟩ := z_bd hf
  refine k_putR (pc := 25) (Or.inr ⟨_, rfl⟩) d_Li_init_25 fd_Li_19 (fun _ => ⟨rfl, _, _, rfl⟩) rfl e_h6 ?_
  refine k_aload_n (pc := 28) rfl z_m0 d_Li_init_28 ?_
  refine k_sipush (pc := 29) (zi_lit rfl) (by decide) d_Li_init_29 ?_
  obtain ⟨h7, e_h7, hf⟩ := z_bd hf
  refine k_nwi (pc := 32) d_Li_init_32 w_ac20 e_h7 ?_
  obtain ⟨h8, e_h8, hf⟩ := z_bd hf
  refine k_putR (pc := 34) (Or.inr ⟨_, rfl⟩) d_Li_init_34 fd_Li_22 (fun _ => ⟨rfl, _, _, rfl⟩) rfl e_h8 ?_
  refine k_aload_n (pc := 37) rfl z_m0 d_Li_init_37 ?_
  refine k_new (pc := 38) d_Li_init_38 nw_Li_25 ?_
  refine k_dup (pc := 41) (Or.inr rfl) d_Li_init_41 ?_
  obtain ⟨h9, e_h9, hf⟩ := z_bd hf
  refine k_callIv (pc := 42) (as := []) (rest := [(2, ((h8.1.length : Nat) : Int)), (2, ((a0 : Nat) : Int))]) d_Li_init_42 cw_Li_init_27 rfl (Nat.le_of_ble_eq_true rfl) (t_St_init e_h9) ?_
  obtain ⟨h10, e_h10, hf⟩ := z_bd hf
  refine k_putR (pc := 45) (Or.inl ⟨_, rfl⟩) d_Li_init_45 fd_Li_28 (fun _ => ⟨rfl, _, _, rfl⟩) rfl e_h10 ?_
  cases hf
  exact k_ret (pc := 48) d_Li_init_48 rfl
theorem t_Li_init {a0 : Nat} {h : zH} {r : zH} (hf : f_Li_init a0 h = some r) : zMt m_Li_init [(2, ((a0 : Nat) : Int))] h (none, r) := zMt.of (by decide) (Nat.le_of_ble_eq_true rfl) (b_Li_init_0 a0 h r hf)
theorem b_SL_init_90 : ∀ (n : Nat) (a0 : Nat) (a2 : Int) (h : zH) (r : zH), f_SL_init_90 n a0 a2 h = some r → zK m_SL_init 90 [(0, (2, ((a0 : Nat) : Int))), (2, (0, a2))] [] h (none, r) := by
  intro n
  induction n with
  | zero =>
    intro a0 a2 h r hf
    cases hf
  | succ n ih =>
    intro a0 a2 h r hf
    unfold f_SL_init_90 at hf
    refine k_iload_n (pc := 90) rfl z_m1 d_SL_init_90 ?_
    refine k_bipush (pc := 91) (zi_lit rfl) (by decide) d_SL_init_91 ?_
    rcases z_it hf with ⟨w4, hf⟩ | ⟨w4, hf⟩
    · refine k_ic_ge_t (pc := 93) (tgt := 115) w4 d_SL_init_93 rfl ?_
      cases hf
      exact k_ret (pc := 115) d_SL_init_115 rfl
    · refine k_ic_ge_f (pc := 93) (tgt := 115) w4 d_SL_init_93 rfl ?_
      refine k_aload_n (pc := 96) rfl z_m0 d_SL_init_96 ?_
      obtain ⟨v1, e_v1, hf⟩ := z_bd hf
      refine k_getR (pc := 97) d_SL_init_97 fd_SL_22 rfl e_v1 ?_
      refine k_iload_n (pc := 100) rfl z_m1 d_SL_init_100 ?_
      refine k_new (pc := 101) d_SL_init_101 nw_SL_20 ?_
      refine k_dup (pc := 104) (Or.inr rfl) d_SL_init_104 ?_
      obtain ⟨h2, e_h2, hf⟩ := z_bd hf
      refine k_callIv (pc := 105) (as := []) (rest := [(2, ((h.1.length : Nat) : Int)), (0, a2), (2, ((v1 : Nat) : Int))]) d_SL_init_105 cw_SL_init_61 rfl (Nat.le_of_ble_eq_true rfl) (t_Li_init e_h2) ?_
      obtain ⟨h3, e_h3, hf⟩ := z_bd hf
      refine k_rast25 (pc := 108) rfl (by decide) d_SL_init_108 e_h3 ?_
      refine k_iinc (pc := 109) (L' := [(2, (0, zw (a2 + 1))), (0, (2, ((a0 : Nat) : Int)))]) z_m1 d_SL_init_109 (Nat.le_of_ble_eq_true rfl) rfl ?_
      refine k_goto (pc := 112) (tgt := 90) d_SL_init_112 rfl ?_
      refine k_sub [1, 0] rfl ?_
      exact ih a0 (zw (a2 + 1)) h3 _ hf
theorem b_SL_init_0 (a0 : Nat) (a1 : Int) (h : zH) (r : zH) (hf : f_SL_init a0 a1 h = some r) : zK m_SL_init 0 [(0, (2, ((a0 : Nat) : Int))), (1, (0, a1))] [] h (none, r) := by
  unfold f_SL_init at hf
  refine k_aload_n (pc := 0) rfl z_m0 d_SL_init_0 ?_
  refine k_obj (pc := 1) d_SL_init_1 w_SL_1 w_obj1 w_obj2 (by decide) (Nat.le_of_ble_eq_true rfl) ?_
  refine k_aload_n (pc := 4) rfl z_m0 d_SL_init_4 ?_
  refine k_bipush (pc := 5) (zi_lit rfl) (by decide) d_SL_init_5 ?_
  obtain ⟨h5, e_h5, hf⟩ := z_bd hf
  refine k_nwc (pc := 7) d_SL_init_7 w_ac21 e_h5 ?_
  obtain ⟨h6, e_h6, hf⟩ := z_bd hf
  refine k_putR (pc := 9) (Or.inr ⟨_, rfl⟩) d_SL_init_9 fd_SL_9 (fun _ => ⟨rfl, _, _, rfl⟩) rfl e_h6 ?_
  refine k_aload_n (pc := 12) rfl z_m0 d_SL_init_12 ?_
  refine k_new (pc := 13) d_SL_init_13 nw_SL_13 ?_
  refine k_dup (pc := 16) (Or.inr rfl) d_SL_init_16 ?_
  obtain ⟨h7, e_h7, hf⟩ := z_bd hf
  refine k_callIv (pc := 17) (as := []) (rest := [(2, ((h6.1.length : Nat) : Int)), (2, ((a0 : Nat) : Int))]) d_SL_init_17 cw_SL_init_15 rfl (Nat.le_of_ble_eq_true rfl) (t_Pr_init e_h7) ?_
  obtain ⟨h8, e_h8, hf⟩ := z_bd hf
  refine k_putR (pc := 20) (Or.inl ⟨_, rfl⟩) d_SL_init_20 fd_SL_16 (fun _ => ⟨rfl, _, _, rfl⟩) rfl e_h8 ?_
  refine k_aload_n (pc := 23) rfl z_m0 d_SL_init_23 ?_
  refine k_bipush (pc := 24) (zi_lit rfl) (by decide) d_SL_init_24 ?_
  obtain ⟨h9, e_h9, hf⟩ := z_bd hf
  refine k_nwL (pc := 26) d_SL_init_26 w_SL_20 e_h9 ?_
  obtain ⟨h10, e_h10, hf⟩ := z_bd hf
  refine k_putR (pc := 29) (Or.inr ⟨_, rfl⟩) d_SL_init_29 fd_SL_22 (fun _ => ⟨rfl, _, _, rfl⟩) rfl e_h10 ?_
  refine k_aload_n (pc := 32) rfl z_m0 d_SL_init_32 ?_
  refine k_new (pc := 33) d_SL_init_33 nw_SL_26 ?_
  refine k_dup (pc := 36) (Or.inr rfl) d_SL_init_36 ?_
  obtain ⟨h11, e_h11, hf⟩ := z_bd hf
  refine k_callIv (pc := 37) (as := []) (rest := [(2, ((h10.1.length : Nat) : Int)), (2, ((a0 : Nat) : Int))]) d_SL_init_37 cw_SL_init_28 rfl (Nat.le_of_ble_eq_true rfl) (t_Pa_init e_h11) ?_
  obtain ⟨h12, e_h12, hf⟩ := z_bd hf
  refine k_putR (pc := 40) (Or.inl ⟨_, rfl⟩) d_SL_init_40 fd_SL_29 (fun _ => ⟨rfl, _, _, rfl⟩) rfl e_h12 ?_
  refine k_aload_n (pc := 43) rfl z_m0 d_SL_init_43 ?_
  refine k_new (pc := 44) d_SL_init_44 nw_SL_33 ?_
  refine k_dup (pc := 47) (Or.inr rfl) d_SL_init_47 ?_
  obtain ⟨h13, e_h13, hf⟩ := z_bd hf
  refine k_callIv (pc := 48) (as := []) (rest := [(2, ((h12.1.length : Nat) : Int)), (2, ((a0 : Nat) : Int))]) d_SL_init_48 cw_SL_init_35 rfl (Nat.le_of_ble_eq_true rfl) (t_St_init e_h13) ?_
  obtain ⟨h14, e_h14, hf⟩ := z_bd hf
  refine k_putR (pc := 51) (Or.inl ⟨_, rfl⟩) d_SL_init_51 fd_SL_36 (fun _ => ⟨rfl, _, _, rfl⟩) rfl e_h14 ?_
  refine k_aload_n (pc := 54) rfl z_m0 d_SL_init_54 ?_
  refine k_new (pc := 55) d_SL_init_55 nw_SL_33 ?_
  refine k_dup (pc := 58) (Or.inr rfl) d_SL_init_58 ?_
  obtain ⟨h15, e_h15, hf⟩ := z_bd hf
  refine k_callIv (pc := 59) (as := []) (rest := [(2, ((h14.1.length : Nat) : Int)), (2, ((a0 : Nat) : Int))]) d_SL_init_59 cw_SL_init_35 rfl (Nat.le_of_ble_eq_true rfl) (t_St_init e_h15) ?_
  obtain ⟨h16, e_h16, hf⟩ := z_bd hf
  refine k_putR (pc := 62) (Or.inl ⟨_, rfl⟩) d_SL_init_62 fd_SL_40 (fun _ => ⟨rfl, _, _, rfl⟩) rfl e_h16 ?_
  refine k_aload_n (pc := 65) rfl z_m0 d_SL_init_65 ?_
  refine k_new (pc := 66) d_SL_init_66 nw_SL_43 ?_
  refine k_dup (pc := 69) (Or.inr rfl) d_SL_init_69 ?_
  refine k_bipush (pc := 70) (zi_lit rfl) (by decide) d_SL_init_70 ?_
  refine k_sipush (pc := 72) (zi_lit rfl) (by decide) d_SL_init_72 ?_
  refine k_iload_n (pc := 75) rfl z_m1 d_SL_init_75 ?_
  refine k_min (pc := 76) d_SL_init_76 w_SL_45 w_min1 w_math w_min2 (by decide) (Nat.le_of_ble_eq_true rfl) ?_
  refine k_max (pc := 79) d_SL_init_79 w_SL_51 w_max1 w_math w_max2 (by decide) (Nat.le_of_ble_eq_true rfl) ?_
  obtain ⟨h17, e_h17, hf⟩ := z_bd hf
  refine k_callIv (pc := 82) (as := [(0, z_max 10 (z_min 300 a1))]) (rest := [(2, ((h16.1.length : Nat) : Int)), (2, ((a0 : Nat) : Int))]) d_SL_init_82 cw_SL_init_54 rfl (Nat.le_of_ble_eq_true rfl) (t_Gr_init e_h17) ?_
  obtain ⟨h18, e_h18, hf⟩ := z_bd hf
  refine k_putR (pc := 85) (Or.inl ⟨_, rfl⟩) d_SL_init_85 fd_SL_57 (fun _ => ⟨rfl, _, _, rfl⟩) rfl e_h18 ?_
  refine k_iconst (pc := 88) (zi_lit rfl) d_SL_init_88 ?_
  refine k_istore_n (pc := 89) (L' := [(2, (0, 0)), (0, (2, ((a0 : Nat) : Int))), (1, (0, a1))]) rfl d_SL_init_89 (Nat.le_of_ble_eq_true rfl) rfl ?_
  refine k_sub [1, 0] rfl ?_
  exact b_SL_init_90 100000 a0 0 h18 _ hf
theorem t_SL_init {a0 : Nat} {a1 : Int} {h : zH} {r : zH} (hf : f_SL_init a0 a1 h = some r) : zMt m_SL_init [(2, ((a0 : Nat) : Int)), (0, a1)] h (none, r) := zMt.of (by decide) (Nat.le_of_ble_eq_true rfl) (b_SL_init_0 a0 a1 h r hf)
theorem b_SL_type_54 (c6 : Nat → Int → Int → Int → zH → Option (Int × zH)) (k6 : ∀ (x0 : Nat) (x1 : Int) (x3 : Int) (x4 : Int) (g : zH) (r : Int × zH), c6 x0 x1 x3 x4 g = some r → zK m_SL_type 6 [(0, (2, ((x0 : Nat) : Int))), (1, (1, x1)), (3, (0, x3)), (4, (0, x4))] [] g (some (0, r.1), r.2)) (a0 : Nat) (a1 : Int) (a4 : Int) (s0 : Int) (s1 : Int) (h : zH) (r : Int × zH) (hf : f_SL_type_54 c6 a0 a1 a4 s0 s1 h = some r) : zK m_SL_type 54 [(0, (2, ((a0 : Nat) : Int))), (1, (1, a1)), (4, (0, a4))] [(0, s1), (0, s0)] h (some (0, r.1), r.2) := by
  unfold f_SL_type_54 at hf
  refine k_iadd (pc := 54) d_SL_type_54 ?_
  refine k_istore_n (pc := 55) (L' := [(3, (0, zw (s0 + s1))), (0, (2, ((a0 : Nat) : Int))), (1, (1, a1)), (4, (0, a4))]) rfl d_SL_type_55 (Nat.le_of_ble_eq_true rfl) rfl ?_
  refine k_iinc (pc := 56) (L' := [(4, (0, zw (a4 + (-8)))), (3, (0, zw (s0 + s1))), (0, (2, ((a0 : Nat) : Int))), (1, (1, a1))]) z_m3 d_SL_type_56 (Nat.le_of_ble_eq_true rfl) rfl ?_
  refine k_goto (pc := 59) (tgt := 6) d_SL_type_59 rfl ?_
  refine k_sub [2, 3, 1, 0] rfl ?_
  exact k6 a0 a1 (zw (s0 + s1)) (zw (a4 + (-8))) h _ hf
theorem b_SL_type_43 (c6 : Nat → Int → Int → Int → zH → Option (Int × zH)) (k6 : ∀ (x0 : Nat) (x1 : Int) (x3 : Int) (x4 : Int) (g : zH) (r : Int × zH), c6 x0 x1 x3 x4 g = some r → zK m_SL_type 6 [(0, (2, ((x0 : Nat) : Int))), (1, (1, x1)), (3, (0, x3)), (4, (0, x4))] [] g (some (0, r.1), r.2)) (a0 : Nat) (a1 : Int) (a3 : Int) (a4 : Int) (a5 : Int) (h : zH) (r : Int × zH) (hf : f_SL_type_43 c6 a0 a1 a3 a4 a5 h = some r) : zK m_SL_type 43 [(0, (2, ((a0 : Nat) : Int))), (1, (1, a1)), (3, (0, a3)), (4, (0, a4)), (5, (0, a5))] [] h (some (0, r.1), r.2) := by
  unfold f_SL_type_43 at hf
  refine k_iload_n (pc := 43) rfl z_m2 d_SL_type_43 ?_
  refine k_iload (pc := 44) z_m4 d_SL_type_44 ?_
  rcases z_it hf with ⟨w1, hf⟩ | ⟨w1, hf⟩
  · refine k_if_eq_t (pc := 46) (tgt := 53) w1 d_SL_type_46 rfl ?_
    refine k_iconst (pc := 53) (zi_lit rfl) d_SL_type_53 ?_
    refine k_sub [0, 1, 3] rfl ?_
    exact b_SL_type_54 c6 k6 a0 a1 a4 a3 0 h _ hf
  · refine k_if_eq_f (pc := 46) (tgt := 53) w1 d_SL_type_46 rfl ?_
    refine k_iconst (pc := 49) (zi_lit rfl) d_SL_type_49 ?_
    refine k_goto (pc := 50) (tgt := 54) d_SL_type_50 rfl ?_
    refine k_sub [0, 1, 3] rfl ?_
    exact b_SL_type_54 c6 k6 a0 a1 a4 a3 1 h _ hf
theorem b_SL_type_122 (c79 : Nat → Int → Int → zH → Option (Int × zH)) (k79 : ∀ (x0 : Nat) (x1 : Int) (x4 : Int) (g : zH) (r : Int × zH), c79 x0 x1 x4 g = some r → zK m_SL_type 79 [(0, (2, ((x0 : Nat) : Int))), (1, (1, x1)), (4, (0, x4))] [] g (some (0, r.1), r.2)) (a0 : Nat) (a1 : Int) (a4 : Int) (h : zH) (r : Int × zH) (hf : f_SL_type_122 c79 a0 a1 a4 h = some r) : zK m_SL_type 122 [(0, (2, ((a0 : Nat) : Int))), (1, (1, a1)), (4, (0, a4))] [] h (some (0, r.1), r.2) := by
  unfold f_SL_type_122 at hf
  refine k_iinc (pc := 122) (L' := [(4, (0, zw (a4 + (-8)))), (0, (2, ((a0 : Nat) : Int))), (1, (1, a1))]) z_m2 d_SL_type_122 (Nat.le_of_ble_eq_true rfl) rfl ?_
  refine k_goto (pc := 125) (tgt := 79) d_SL_type_125 rfl ?_
  refine k_sub [1, 2, 0] rfl ?_
  exact k79 a0 a1 (zw (a4 + (-8))) h _ hf
theorem b_SL_type_79 : ∀ (n : Nat) (a0 : Nat) (a1 : Int) (a4 : Int) (h : zH) (r : Int × zH), f_SL_type_79 n a0 a1 a4 h = some r → zK m_SL_type 79 [(0, (2, ((a0 : Nat) : Int))), (1, (1, a1)), (4, (0, a4))] [] h (some (0, r.1), r.2) := by
  intro n
  induction n with
  | zero =>
    intro a0 a1 a4 h r hf
    cases hf
  | succ n ih =>
    intro a0 a1 a4 h r hf
    unfold f_SL_type_79 at hf
    refine k_iload (pc := 79) z_m2 d_SL_type_79 ?_
    rcases z_it hf with ⟨w8, hf⟩ | ⟨w8, hf⟩
    · refine k_if_lt_t (pc := 81) (tgt := 128) w8 d_SL_type_81 rfl ?_
      refine k_iconst (pc := 128) (zi_lit rfl) d_SL_type_128 ?_
      cases hf
      exact k_zret (pc := 129) d_SL_type_129 rfl (Or.inr rfl)
    · refine k_if_lt_f (pc := 81) (tgt := 128) w8 d_SL_type_81 rfl ?_
      refine k_lload_n (pc := 84) rfl z_m1 d_SL_type_84 ?_
      refine k_iload (pc := 85) z_m2 d_SL_type_85 ?_
      refine k_lushr (pc := 87) d_SL_type_87 ?_
      refine k_l2i (pc := 88) d_SL_type_88 ?_
      refine k_sipush (pc := 89) (zi_lit rfl) (by decide) d_SL_type_89 ?_
      refine k_iand (pc := 92) d_SL_type_92 ?_
      refine k_istore (pc := 93) (L' := [(5, (0, z_and (zw (z_lushr a1 a4)) 255)), (0, (2, ((a0 : Nat) : Int))), (1, (1, a1)), (4, (0, a4))]) d_SL_type_93 (Nat.le_of_ble_eq_true rfl) rfl ?_
      refine k_iload (pc := 95) z_m0 d_SL_type_95 ?_
      rcases z_it hf with ⟨w7, hf⟩ | ⟨w7, hf⟩
      · refine k_if_eq_t (pc := 97) (tgt := 122) w7 d_SL_type_97 rfl ?_
        refine k_sub [1, 2, 3] rfl ?_
        exact b_SL_type_122 (f_SL_type_79 n) ih a0 a1 a4 h _ hf
      · refine k_if_eq_f (pc := 97) (tgt := 122) w7 d_SL_type_97 rfl ?_
        refine k_aload_n (pc := 100) rfl z_m1 d_SL_type_100 ?_
        obtain ⟨v2, e_v2, hf⟩ := z_bd hf
        refine k_getR (pc := 101) d_SL_type_101 fd_SL_9 rfl e_v2 ?_
        refine k_aload_n (pc := 104) rfl z_m1 d_SL_type_104 ?_
        obtain ⟨v3, e_v3, hf⟩ := z_bd hf
        refine k_getI (pc := 105) d_SL_type_105 fd_SL_62 rfl e_v3 ?_
        refine k_iload (pc := 108) z_m0 d_SL_type_108 ?_
        refine k_i2c (pc := 110) d_SL_type_110 ?_
        obtain ⟨h4, e_h4, hf⟩ := z_bd hf
        refine k_cast (pc := 111) d_SL_type_111 e_h4 ?_
        refine k_aload_n (pc := 112) rfl z_m1 d_SL_type_112 ?_
        refine k_dup (pc := 113) (Or.inr rfl) d_SL_type_113 ?_
        obtain ⟨v5, e_v5, hf⟩ := z_bd hf
        refine k_getI (pc := 114) d_SL_type_114 fd_SL_62 rfl e_v5 ?_
        refine k_iconst (pc := 117) (zi_lit rfl) d_SL_type_117 ?_
        refine k_iadd (pc := 118) d_SL_type_118 ?_
        obtain ⟨h6, e_h6, hf⟩ := z_bd hf
        refine k_putI (pc := 119) d_SL_type_119 fd_SL_62 (fun q => by cases q) rfl e_h6 ?_
        refine k_sub [1, 2, 3] rfl ?_
        exact b_SL_type_122 (f_SL_type_79 n) ih a0 a1 a4 h6 _ hf
theorem b_SL_type_6 : ∀ (n : Nat) (a0 : Nat) (a1 : Int) (a3 : Int) (a4 : Int) (h : zH) (r : Int × zH), f_SL_type_6 n a0 a1 a3 a4 h = some r → zK m_SL_type 6 [(0, (2, ((a0 : Nat) : Int))), (1, (1, a1)), (3, (0, a3)), (4, (0, a4))] [] h (some (0, r.1), r.2) := by
  intro n
  induction n with
  | zero =>
    intro a0 a1 a3 a4 h r hf
    cases hf
  | succ n ih =>
    intro a0 a1 a3 a4 h r hf
    unfold f_SL_type_6 at hf
    refine k_iload (pc := 6) z_m3 d_SL_type_6 ?_
    rcases z_it hf with ⟨w14, hf⟩ | ⟨w14, hf⟩
    · refine k_if_lt_t (pc := 8) (tgt := 62) w14 d_SL_type_8 rfl ?_
      refine k_aload_n (pc := 62) rfl z_m0 d_SL_type_62 ?_
      obtain ⟨v9, e_v9, hf⟩ := z_bd hf
      refine k_getI (pc := 63) d_SL_type_63 fd_SL_62 rfl e_v9 ?_
      refine k_iload_n (pc := 66) rfl z_m2 d_SL_type_66 ?_
      refine k_iadd (pc := 67) d_SL_type_67 ?_
      refine k_bipush (pc := 68) (zi_lit rfl) (by decide) d_SL_type_68 ?_
      rcases z_it hf with ⟨w10, hf⟩ | ⟨w10, hf⟩
      · refine k_ic_le_t (pc := 70) (tgt := 75) w10 d_SL_type_70 rfl ?_
        refine k_bipush (pc := 75) (zi_lit rfl) (by decide) d_SL_type_75 ?_
        refine k_istore (pc := 77) (L' := [(4, (0, 56)), (0, (2, ((a0 : Nat) : Int))), (1, (1, a1)), (3, (0, a3))]) d_SL_type_77 (Nat.le_of_ble_eq_true rfl) rfl ?_
        refine k_sub [1, 2, 0] rfl ?_
        exact b_SL_type_79 100000 a0 a1 56 h _ hf
      · refine k_ic_le_f (pc := 70) (tgt := 75) w10 d_SL_type_70 rfl ?_
        refine k_iconst (pc := 73) (zi_lit rfl) d_SL_type_73 ?_
        cases hf
        exact k_zret (pc := 74) d_SL_type_74 rfl (Or.inl rfl)
    · refine k_if_lt_f (pc := 8) (tgt := 62) w14 d_SL_type_8 rfl ?_
      refine k_lload_n (pc := 11) rfl z_m1 d_SL_type_11 ?_
      refine k_iload (pc := 12) z_m3 d_SL_type_12 ?_
      refine k_lushr (pc := 14) d_SL_type_14 ?_
      refine k_l2i (pc := 15) d_SL_type_15 ?_
      refine k_sipush (pc := 16) (zi_lit rfl) (by decide) d_SL_type_16 ?_
      refine k_iand (pc := 19) d_SL_type_19 ?_
      refine k_istore (pc := 20) (L' := [(5, (0, z_and (zw (z_lushr a1 a4)) 255)), (0, (2, ((a0 : Nat) : Int))), (1, (1, a1)), (3, (0, a3)), (4, (0, a4))]) d_SL_type_20 (Nat.le_of_ble_eq_true rfl) rfl ?_
      refine k_iload (pc := 22) z_m0 d_SL_type_22 ?_
      rcases z_it hf with ⟨w13, hf⟩ | ⟨w13, hf⟩
      · refine k_if_eq_t (pc := 24) (tgt := 43) w13 d_SL_type_24 rfl ?_
        refine k_sub [1, 2, 3, 4, 0] rfl ?_
        exact b_SL_type_43 (f_SL_type_6 n) ih a0 a1 a3 a4 (z_and (zw (z_lushr a1 a4)) 255) h _ hf
      · refine k_if_eq_f (pc := 24) (tgt := 43) w13 d_SL_type_24 rfl ?_
        refine k_iload (pc := 27) z_m0 d_SL_type_27 ?_
        refine k_bipush (pc := 29) (zi_lit rfl) (by decide) d_SL_type_29 ?_
        rcases z_it hf with ⟨w12, hf⟩ | ⟨w12, hf⟩
        · refine k_ic_lt_t (pc := 31) (tgt := 41) w12 d_SL_type_31 rfl ?_
          refine k_iconst (pc := 41) (zi_lit rfl) d_SL_type_41 ?_
          cases hf
          exact k_zret (pc := 42) d_SL_type_42 rfl (Or.inl rfl)
        · refine k_ic_lt_f (pc := 31) (tgt := 41) w12 d_SL_type_31 rfl ?_
          refine k_iload (pc := 34) z_m0 d_SL_type_34 ?_
          refine k_bipush (pc := 36) (zi_lit rfl) (by decide) d_SL_type_36 ?_
          rcases z_it hf with ⟨w11, hf⟩ | ⟨w11, hf⟩
          · refine k_ic_le_t (pc := 38) (tgt := 43) w11 d_SL_type_38 rfl ?_
            refine k_sub [1, 2, 3, 4, 0] rfl ?_
            exact b_SL_type_43 (f_SL_type_6 n) ih a0 a1 a3 a4 (z_and (zw (z_lushr a1 a4)) 255) h _ hf
          · refine k_ic_le_f (pc := 38) (tgt := 43) w11 d_SL_type_38 rfl ?_
            refine k_iconst (pc := 41) (zi_lit rfl) d_SL_type_41 ?_
            cases hf
            exact k_zret (pc := 42) d_SL_type_42 rfl (Or.inl rfl)
theorem b_SL_type_0 (a0 : Nat) (a1 : Int) (h : zH) (r : Int × zH) (hf : f_SL_type a0 a1 h = some r) : zK m_SL_type 0 [(0, (2, ((a0 : Nat) : Int))), (1, (1, a1))] [] h (some (0, r.1), r.2) := by
  unfold f_SL_type at hf
  refine k_iconst (pc := 0) (zi_lit rfl) d_SL_type_0 ?_
  refine k_istore_n (pc := 1) (L' := [(3, (0, 0)), (0, (2, ((a0 : Nat) : Int))), (1, (1, a1))]) rfl d_SL_type_1 (Nat.le_of_ble_eq_true rfl) rfl ?_
  refine k_bipush (pc := 2) (zi_lit rfl) (by decide) d_SL_type_2 ?_
  refine k_istore (pc := 4) (L' := [(4, (0, 56)), (3, (0, 0)), (0, (2, ((a0 : Nat) : Int))), (1, (1, a1))]) d_SL_type_4 (Nat.le_of_ble_eq_true rfl) rfl ?_
  refine k_sub [2, 3, 1, 0] rfl ?_
  exact b_SL_type_6 100000 a0 a1 0 56 h _ hf
theorem t_SL_type {a0 : Nat} {a1 : Int} {h : zH} {r : Int × zH} (hf : f_SL_type a0 a1 h = some r) : zMt m_SL_type [(2, ((a0 : Nat) : Int)), (1, a1)] h (some (0, r.1), r.2) := zMt.of (by decide) (Nat.le_of_ble_eq_true rfl) (b_SL_type_0 a0 a1 h r hf)
theorem b_SL_wipe_0 (a0 : Nat) (h : zH) (r : zH) (hf : f_SL_wipe a0 h = some r) : zK m_SL_wipe 0 [(0, (2, ((a0 : Nat) : Int)))] [] h (none, r) := by
  unfold f_SL_wipe at hf
  refine k_aload_n (pc := 0) rfl z_m0 d_SL_wipe_0 ?_
  refine k_iconst (pc := 1) (zi_lit rfl) d_SL_wipe_1 ?_
  obtain ⟨h1, e_h1, hf⟩ := z_bd hf
  refine k_putI (pc := 2) d_SL_wipe_2 fd_SL_62 (fun q => by cases q) rfl e_h1 ?_
  cases hf
  exact k_ret (pc := 5) d_SL_wipe_5 rfl
theorem t_SL_wipe {a0 : Nat} {h : zH} {r : zH} (hf : f_SL_wipe a0 h = some r) : zMt m_SL_wipe [(2, ((a0 : Nat) : Int))] h (none, r) := zMt.of (by decide) (Nat.le_of_ble_eq_true rfl) (b_SL_wipe_0 a0 h r hf)
theorem b_Gr_isRange_0 (a0 : Nat) (a1 : Int) (h : zH) (r : Int × zH) (hf : f_Gr_isRange a0 a1 h = some r) : zK m_Gr_isRange 0 [(0, (2, ((a0 : Nat) : Int))), (1, (0, a1))] [] h (some (0, r.1), r.2) := by
  unfold f_Gr_isRange at hf
  refine k_iload_n (pc := 0) rfl z_m1 d_Gr_isRange_0 ?_
  rcases z_it hf with ⟨w7, hf⟩ | ⟨w7, hf⟩
  · refine k_if_lt_t (pc := 1) (tgt := 28) w7 d_Gr_isRange_1 rfl ?_
    refine k_iconst (pc := 28) (zi_lit rfl) d_Gr_isRange_28 ?_
    cases hf
    exact k_zret (pc := 29) d_Gr_isRange_29 rfl (Or.inl rfl)
  · refine k_if_lt_f (pc := 1) (tgt := 28) w7 d_Gr_isRange_1 rfl ?_
    refine k_iload_n (pc := 4) rfl z_m1 d_Gr_isRange_4 ?_
    refine k_aload_n (pc := 5) rfl z_m0 d_Gr_isRange_5 ?_
    obtain ⟨v1, e_v1, hf⟩ := z_bd hf
    refine k_getI (pc := 6) d_Gr_isRange_6 fd_Gr_45 rfl e_v1 ?_
    rcases z_it hf with ⟨w6, hf⟩ | ⟨w6, hf⟩
    · refine k_ic_gt_t (pc := 9) (tgt := 28) w6 d_Gr_isRange_9 rfl ?_
      refine k_iconst (pc := 28) (zi_lit rfl) d_Gr_isRange_28 ?_
      cases hf
      exact k_zret (pc := 29) d_Gr_isRange_29 rfl (Or.inl rfl)
    · refine k_ic_gt_f (pc := 9) (tgt := 28) w6 d_Gr_isRange_9 rfl ?_
      refine k_aload_n (pc := 12) rfl z_m0 d_Gr_isRange_12 ?_
      obtain ⟨v2, e_v2, hf⟩ := z_bd hf
      refine k_getR (pc := 13) d_Gr_isRange_13 fd_Gr_11 rfl e_v2 ?_
      refine k_iload_n (pc := 16) rfl z_m1 d_Gr_isRange_16 ?_
      obtain ⟨v3, e_v3, hf⟩ := z_bd hf
      refine k_rald24 (pc := 17) d_Gr_isRange_17 e_v3 ?_
      obtain ⟨v4, e_v4, hf⟩ := z_bd hf
      refine k_getI (pc := 18) d_Gr_isRange_18 fd_Gr_41 rfl e_v4 ?_
      rcases z_it hf with ⟨w5, hf⟩ | ⟨w5, hf⟩
      · refine k_if_eq_t (pc := 21) (tgt := 28) w5 d_Gr_isRange_21 rfl ?_
        refine k_iconst (pc := 28) (zi_lit rfl) d_Gr_isRange_28 ?_
        cases hf
        exact k_zret (pc := 29) d_Gr_isRange_29 rfl (Or.inl rfl)
      · refine k_if_eq_f (pc := 21) (tgt := 28) w5 d_Gr_isRange_21 rfl ?_
        refine k_iconst (pc := 24) (zi_lit rfl) d_Gr_isRange_24 ?_
        refine k_goto (pc := 25) (tgt := 29) d_Gr_isRange_25 rfl ?_
        cases hf
        exact k_zret (pc := 29) d_Gr_isRange_29 rfl (Or.inr rfl)
theorem t_Gr_isRange {a0 : Nat} {a1 : Int} {h : zH} {r : Int × zH} (hf : f_Gr_isRange a0 a1 h = some r) : zMt m_Gr_isRange [(2, ((a0 : Nat) : Int)), (0, a1)] h (some (0, r.1), r.2) := zMt.of (by decide) (Nat.le_of_ble_eq_true rfl) (b_Gr_isRange_0 a0 a1 h r hf)
theorem b_SL_isScope_0 (a0 : Int) (h : zH) (r : Int × zH) (hf : f_SL_isScope a0 h = some r) : zK m_SL_isScope 0 [(0, (0, a0))] [] h (some (0, r.1), r.2) := by
  unfold f_SL_isScope at hf
  refine k_iload_n (pc := 0) rfl z_m0 d_SL_isScope_0 ?_
  refine k_iconst (pc := 1) (zi_lit rfl) d_SL_isScope_1 ?_
  rcases z_it hf with ⟨w2, hf⟩ | ⟨w2, hf⟩
  · refine k_ic_lt_t (pc := 2) (tgt := 15) w2 d_SL_isScope_2 rfl ?_
    refine k_iconst (pc := 15) (zi_lit rfl) d_SL_isScope_15 ?_
    cases hf
    exact k_zret (pc := 16) d_SL_isScope_16 rfl (Or.inl rfl)
  · refine k_ic_lt_f (pc := 2) (tgt := 15) w2 d_SL_isScope_2 rfl ?_
    refine k_iload_n (pc := 5) rfl z_m0 d_SL_isScope_5 ?_
    refine k_bipush (pc := 6) (zi_lit rfl) (by decide) d_SL_isScope_6 ?_
    rcases z_it hf with ⟨w1, hf⟩ | ⟨w1, hf⟩
    · refine k_ic_gt_t (pc := 8) (tgt := 15) w1 d_SL_isScope_8 rfl ?_
      refine k_iconst (pc := 15) (zi_lit rfl) d_SL_isScope_15 ?_
      cases hf
      exact k_zret (pc := 16) d_SL_isScope_16 rfl (Or.inl rfl)
    · refine k_ic_gt_f (pc := 8) (tgt := 15) w1 d_SL_isScope_8 rfl ?_
      refine k_iconst (pc := 11) (zi_lit rfl) d_SL_isScope_11 ?_
      refine k_goto (pc := 12) (tgt := 16) d_SL_isScope_12 rfl ?_
      cases hf
      exact k_zret (pc := 16) d_SL_isScope_16 rfl (Or.inr rfl)
theorem t_SL_isScope {a0 : Int} {h : zH} {r : Int × zH} (hf : f_SL_isScope a0 h = some r) : zMt m_SL_isScope [(0, a0)] h (some (0, r.1), r.2) := zMt.of (by decide) (Nat.le_of_ble_eq_true rfl) (b_SL_isScope_0 a0 h r hf)
theorem b_Gr_nextRule_0 (a0 : Nat) (h : zH) (r : Nat × zH) (hf : f_Gr_nextRule a0 h = some r) : zK m_Gr_nextRule 0 [(0, (2, ((a0 : Nat) : Int)))] [] h (some (2, (r.1 : Int)), r.2) := by
  unfold f_Gr_nextRule at hf
  refine k_aload_n (pc := 0) rfl z_m0 d_Gr_nextRule_0 ?_
  obtain ⟨v1, e_v1, hf⟩ := z_bd hf
  refine k_getR (pc := 1) d_Gr_nextRule_1 fd_Gr_11 rfl e_v1 ?_
  refine k_aload_n (pc := 4) rfl z_m0 d_Gr_nextRule_4 ?_
  obtain ⟨v2, e_v2, hf⟩ := z_bd hf
  refine k_getI (pc := 5) d_Gr_nextRule_5 fd_Gr_45 rfl e_v2 ?_
  refine k_iconst (pc := 8) (zi_lit rfl) d_Gr_nextRule_8 ?_
  refine k_iadd (pc := 9) d_Gr_nextRule_9 ?_
  obtain ⟨v3, e_v3, hf⟩ := z_bd hf
  refine k_rald24 (pc := 10) d_Gr_nextRule_10 e_v3 ?_
  cases hf
  exact k_aret (pc := 11) d_Gr_nextRule_11 rfl
theorem t_Gr_nextRule {a0 : Nat} {h : zH} {r : Nat × zH} (hf : f_Gr_nextRule a0 h = some r) : zMt m_Gr_nextRule [(2, ((a0 : Nat) : Int))] h (some (2, (r.1 : Int)), r.2) := zMt.of (by decide) (Nat.le_of_ble_eq_true rfl) (b_Gr_nextRule_0 a0 h r hf)
theorem b_Pr_hasBlank_32 (c4 : Nat → Int → Int → zH → Option (Int × zH)) (k4 : ∀ (x0 : Nat) (x1 : Int) (x2 : Int) (g : zH) (r : Int × zH), c4 x0 x1 x2 g = some r → zK m_Pr_hasBlank 4 [(0, (2, ((x0 : Nat) : Int))), (1, (0, x1)), (2, (0, x2))] [] g (some (0, r.1), r.2)) (a0 : Nat) (a2 : Int) (s0 : Int) (h : zH) (r : Int × zH) (hf : f_Pr_hasBlank_32 c4 a0 a2 s0 h = some r) : zK m_Pr_hasBlank 32 [(0, (2, ((a0 : Nat) : Int))), (2, (0, a2))] [(0, s0)] h (some (0, r.1), r.2) := by
  unfold f_Pr_hasBlank_32 at hf
  refine k_istore_n (pc := 32) (L' := [(1, (0, s0)), (0, (2, ((a0 : Nat) : Int))), (2, (0, a2))]) rfl d_Pr_hasBlank_32 (Nat.le_of_ble_eq_true rfl) rfl ?_
  refine k_iinc (pc := 33) (L' := [(2, (0, zw (a2 + 1))), (1, (0, s0)), (0, (2, ((a0 : Nat) : Int)))]) z_m2 d_Pr_hasBlank_33 (Nat.le_of_ble_eq_true rfl) rfl ?_
  refine k_goto (pc := 36) (tgt := 4) d_Pr_hasBlank_36 rfl ?_
  refine k_sub [2, 1, 0] rfl ?_
  exact k4 a0 s0 (zw (a2 + 1)) h _ hf
theorem b_Pr_hasBlank_4 : ∀ (n : Nat) (a0 : Nat) (a1 : Int) (a2 : Int) (h : zH) (r : Int × zH), f_Pr_hasBlank_4 n a0 a1 a2 h = some r → zK m_Pr_hasBlank 4 [(0, (2, ((a0 : Nat) : Int))), (1, (0, a1)), (2, (0, a2))] [] h (some (0, r.1), r.2) := by
  intro n
  induction n with
  | zero =>
    intro a0 a1 a2 h r hf
    cases hf
  | succ n ih =>
    intro a0 a1 a2 h r hf
    unfold f_Pr_hasBlank_4 at hf
    refine k_iload_n (pc := 4) rfl z_m2 d_Pr_hasBlank_4 ?_
    refine k_aload_n (pc := 5) rfl z_m0 d_Pr_hasBlank_5 ?_
    obtain ⟨v1, e_v1, hf⟩ := z_bd hf
    refine k_getI (pc := 6) d_Pr_hasBlank_6 fd_Pr_35 rfl e_v1 ?_
    rcases z_it hf with ⟨w6, hf⟩ | ⟨w6, hf⟩
    · refine k_ic_ge_t (pc := 9) (tgt := 39) w6 d_Pr_hasBlank_9 rfl ?_
      refine k_iload_n (pc := 39) rfl z_m1 d_Pr_hasBlank_39 ?_
      obtain ⟨b, eb, hf⟩ := z_bd hf
      have hb := z_bo_of eb
      rw [hb.1] at hf
      cases hf
      exact k_zret (pc := 40) d_Pr_hasBlank_40 rfl hb.2
    · refine k_ic_ge_f (pc := 9) (tgt := 39) w6 d_Pr_hasBlank_9 rfl ?_
      refine k_iload_n (pc := 12) rfl z_m1 d_Pr_hasBlank_12 ?_
      rcases z_it hf with ⟨w5, hf⟩ | ⟨w5, hf⟩
      · refine k_if_ne_f (pc := 13) (tgt := 39) w5 d_Pr_hasBlank_13 rfl ?_
        refine k_aload_n (pc := 16) rfl z_m0 d_Pr_hasBlank_16 ?_
        obtain ⟨v2, e_v2, hf⟩ := z_bd hf
        refine k_getR (pc := 17) d_Pr_hasBlank_17 fd_Pr_9 rfl e_v2 ?_
        refine k_iload_n (pc := 20) rfl z_m2 d_Pr_hasBlank_20 ?_
        obtain ⟨v3, e_v3, hf⟩ := z_bd hf
        refine k_cald (pc := 21) d_Pr_hasBlank_21 e_v3 ?_
        refine k_bipush (pc := 22) (zi_lit rfl) (by decide) d_Pr_hasBlank_22 ?_
        rcases z_it hf with ⟨w4, hf⟩ | ⟨w4, hf⟩
        · refine k_ic_ne_f (pc := 24) (tgt := 31) w4 d_Pr_hasBlank_24 rfl ?_
          refine k_iconst (pc := 27) (zi_lit rfl) d_Pr_hasBlank_27 ?_
          refine k_goto (pc := 28) (tgt := 32) d_Pr_hasBlank_28 rfl ?_
          refine k_sub [0, 2] rfl ?_
          exact b_Pr_hasBlank_32 (f_Pr_hasBlank_4 n) ih a0 a2 1 h _ hf
        · refine k_ic_ne_t (pc := 24) (tgt := 31) w4 d_Pr_hasBlank_24 rfl ?_
          refine k_iconst (pc := 31) (zi_lit rfl) d_Pr_hasBlank_31 ?_
          refine k_sub [0, 2] rfl ?_
          exact b_Pr_hasBlank_32 (f_Pr_hasBlank_4 n) ih a0 a2 0 h _ hf
      · refine k_if_ne_t (pc := 13) (tgt := 39) w5 d_Pr_hasBlank_13 rfl ?_
        refine k_iload_n (pc := 39) rfl z_m1 d_Pr_hasBlank_39 ?_
        obtain ⟨b, eb, hf⟩ := z_bd hf
        have hb := z_bo_of eb
        rw [hb.1] at hf
        cases hf
        exact k_zret (pc := 40) d_Pr_hasBlank_40 rfl hb.2
theorem b_Pr_hasBlank_0 (a0 : Nat) (h : zH) (r : Int × zH) (hf : f_Pr_hasBlank a0 h = some r) : zK m_Pr_hasBlank 0 [(0, (2, ((a0 : Nat) : Int)))] [] h (some (0, r.1), r.2) := by
  unfold f_Pr_hasBlank at hf
  refine k_iconst (pc := 0) (zi_lit rfl) d_Pr_hasBlank_0 ?_
  refine k_istore_n (pc := 1) (L' := [(1, (0, 0)), (0, (2, ((a0 : Nat) : Int)))]) rfl d_Pr_hasBlank_1 (Nat.le_of_ble_eq_true rfl) rfl ?_
  refine k_iconst (pc := 2) (zi_lit rfl) d_Pr_hasBlank_2 ?_
  refine k_istore_n (pc := 3) (L' := [(2, (0, 0)), (1, (0, 0)), (0, (2, ((a0 : Nat) : Int)))]) rfl d_Pr_hasBlank_3 (Nat.le_of_ble_eq_true rfl) rfl ?_
  refine k_sub [2, 1, 0] rfl ?_
  exact b_Pr_hasBlank_4 100000 a0 0 0 h _ hf
theorem t_Pr_hasBlank {a0 : Nat} {h : zH} {r : Int × zH} (hf : f_Pr_hasBlank a0 h = some r) : zMt m_Pr_hasBlank [(2, ((a0 : Nat) : Int))] h (some (0, r.1), r.2) := zMt.of (by decide) (Nat.le_of_ble_eq_true rfl) (b_Pr_hasBlank_0 a0 h r hf)
theorem b_Pt_clear_0 (a0 : Nat) (h : zH) (r : zH) (hf : f_Pt_clear a0 h = some r) : zK m_Pt_clear 0 [(0, (2, ((a0 : Nat) : Int)))] [] h (none, r) := by
  unfold f_Pt_clear at hf
  refine k_aload_n (pc := 0) rfl z_m0 d_Pt_clear_0 ?_
  refine k_iconst (pc := 1) (zi_lit rfl) d_Pt_clear_1 ?_
  obtain ⟨h1, e_h1, hf⟩ := z_bd hf
  refine k_putI (pc := 2) d_Pt_clear_2 fd_Pt_28 (fun q => by cases q) rfl e_h1 ?_
  refine k_aload_n (pc := 5) rfl z_m0 d_Pt_clear_5 ?_
  refine k_iconst (pc := 6) (zi_lit rfl) d_Pt_clear_6 ?_
  obtain ⟨h2, e_h2, hf⟩ := z_bd hf
  refine k_putI (pc := 7) d_Pt_clear_7 fd_Pt_32 (fun q => by cases q) rfl e_h2 ?_
  cases hf
  exact k_ret (pc := 10) d_Pt_clear_10 rfl
theorem t_Pt_clear {a0 : Nat} {h : zH} {r : zH} (hf : f_Pt_clear a0 h = some r) : zMt m_Pt_clear [(2, ((a0 : Nat) : Int))] h (none, r) := zMt.of (by decide) (Nat.le_of_ble_eq_true rfl) (b_Pt_clear_0 a0 h r hf)
theorem b_Pr_openLevel_0 (a0 : Nat) (a1 : Int) (h : zH) (r : zH) (hf : f_Pr_openLevel a0 a1 h = some r) : zK m_Pr_openLevel 0 [(0, (2, ((a0 : Nat) : Int))), (1, (0, a1))] [] h (none, r) := by
  unfold f_Pr_openLevel at hf
  refine k_aload_n (pc := 0) rfl z_m0 d_Pr_openLevel_0 ?_
  obtain ⟨v1, e_v1, hf⟩ := z_bd hf
  refine k_getR (pc := 1) d_Pr_openLevel_1 fd_Pr_19 rfl e_v1 ?_
  refine k_aload_n (pc := 4) rfl z_m0 d_Pr_openLevel_4 ?_
  obtain ⟨v2, e_v2, hf⟩ := z_bd hf
  refine k_getI (pc := 5) d_Pr_openLevel_5 fd_Pr_62 rfl e_v2 ?_
  refine k_iload_n (pc := 8) rfl z_m1 d_Pr_openLevel_8 ?_
  obtain ⟨h3, e_h3, hf⟩ := z_bd hf
  refine k_iast (pc := 9) d_Pr_openLevel_9 e_h3 ?_
  refine k_aload_n (pc := 10) rfl z_m0 d_Pr_openLevel_10 ?_
  obtain ⟨v4, e_v4, hf⟩ := z_bd hf
  refine k_getR (pc := 11) d_Pr_openLevel_11 fd_Pr_22 rfl e_v4 ?_
  refine k_aload_n (pc := 14) rfl z_m0 d_Pr_openLevel_14 ?_
  obtain ⟨v5, e_v5, hf⟩ := z_bd hf
  refine k_getI (pc := 15) d_Pr_openLevel_15 fd_Pr_62 rfl e_v5 ?_
  refine k_iload_n (pc := 18) rfl z_m1 d_Pr_openLevel_18 ?_
  obtain ⟨h6, e_h6, hf⟩ := z_bd hf
  refine k_iast (pc := 19) d_Pr_openLevel_19 e_h6 ?_
  refine k_aload_n (pc := 20) rfl z_m0 d_Pr_openLevel_20 ?_
  obtain ⟨v7, e_v7, hf⟩ := z_bd hf
  refine k_getR (pc := 21) d_Pr_openLevel_21 fd_Pr_25 rfl e_v7 ?_
  refine k_aload_n (pc := 24) rfl z_m0 d_Pr_openLevel_24 ?_
  obtain ⟨v8, e_v8, hf⟩ := z_bd hf
  refine k_getI (pc := 25) d_Pr_openLevel_25 fd_Pr_62 rfl e_v8 ?_
  refine k_iconst (pc := 28) (zi_lit rfl) d_Pr_openLevel_28 ?_
  obtain ⟨h9, e_h9, hf⟩ := z_bd hf
  refine k_iast (pc := 29) d_Pr_openLevel_29 e_h9 ?_
  refine k_aload_n (pc := 30) rfl z_m0 d_Pr_openLevel_30 ?_
  obtain ⟨v10, e_v10, hf⟩ := z_bd hf
  refine k_getR (pc := 31) d_Pr_openLevel_31 fd_Pr_28 rfl e_v10 ?_
  refine k_aload_n (pc := 34) rfl z_m0 d_Pr_openLevel_34 ?_
  obtain ⟨v11, e_v11, hf⟩ := z_bd hf
  refine k_getI (pc := 35) d_Pr_openLevel_35 fd_Pr_62 rfl e_v11 ?_
  refine k_iconst (pc := 38) (zi_lit rfl) d_Pr_openLevel_38 ?_
  obtain ⟨h12, e_h12, hf⟩ := z_bd hf
  refine k_zast (pc := 39) d_Pr_openLevel_39 e_h12 ?_
  refine k_aload_n (pc := 40) rfl z_m0 d_Pr_openLevel_40 ?_
  obtain ⟨v13, e_v13, hf⟩ := z_bd hf
  refine k_getR (pc := 41) d_Pr_openLevel_41 fd_Pr_32 rfl e_v13 ?_
  refine k_aload_n (pc := 44) rfl z_m0 d_Pr_openLevel_44 ?_
  obtain ⟨v14, e_v14, hf⟩ := z_bd hf
  refine k_getI (pc := 45) d_Pr_openLevel_45 fd_Pr_62 rfl e_v14 ?_
  refine k_iconst (pc := 48) (zi_lit rfl) d_Pr_openLevel_48 ?_
  obtain ⟨h15, e_h15, hf⟩ := z_bd hf
  refine k_zast (pc := 49) d_Pr_openLevel_49 e_h15 ?_
  cases hf
  exact k_ret (pc := 50) d_Pr_openLevel_50 rfl
theorem t_Pr_openLevel {a0 : Nat} {a1 : Int} {h : zH} {r : zH} (hf : f_Pr_openLevel a0 a1 h = some r) : zMt m_Pr_openLevel [(2, ((a0 : Nat) : Int)), (0, a1)] h (none, r) := zMt.of (by decide) (Nat.le_of_ble_eq_true rfl) (b_Pr_openLevel_0 a0 a1 h r hf)
theorem b_Pt_insert_16 : ∀ (n : Nat) (a0 : Nat) (a1 : Int) (a2 : Int) (a3 : Int) (a4 : Int) (a5 : Int) (h : zH) (r : zH), f_Pt_insert_16 n a0 a1 a2 a3 a4 a5 h = some r → zK m_Pt_insert 16 [(0, (2, ((a0 : Nat) : Int))), (1, (0, a1)), (2, (0, a2)), (3, (0, a3)), (4, (0, a4)), (5, (0, a5))] [] h (none, r) := by
  intro n
  induction n with
  | zero =>
    intro a0 a1 a2 a3 a4 a5 h r hf
    cases hf
  | succ n ih =>
    intro a0 a1 a2 a3 a4 a5 h r hf
    unfold f_Pt_insert_16 at hf
    refine k_iload (pc := 16) z_m5 d_Pt_insert_16 ?_
    refine k_iload_n (pc := 18) rfl z_m1 d_Pt_insert_18 ?_
    rcases z_it hf with ⟨w21, hf⟩ | ⟨w21, hf⟩
    · refine k_ic_le_t (pc := 19) (tgt := 76) w21 d_Pt_insert_19 rfl ?_
      refine k_aload_n (pc := 76) rfl z_m0 d_Pt_insert_76 ?_
      obtain ⟨v1, e_v1, hf⟩ := z_bd hf
      refine k_getR (pc := 77) d_Pt_insert_77 fd_Pt_11 rfl e_v1 ?_
      refine k_iload_n (pc := 80) rfl z_m1 d_Pt_insert_80 ?_
      refine k_iload_n (pc := 81) rfl z_m2 d_Pt_insert_81 ?_
      obtain ⟨h2, e_h2, hf⟩ := z_bd hf
      refine k_iast (pc := 82) d_Pt_insert_82 e_h2 ?_
      refine k_aload_n (pc := 83) rfl z_m0 d_Pt_insert_83 ?_
      obtain ⟨v3, e_v3, hf⟩ := z_bd hf
      refine k_getR (pc := 84) d_Pt_insert_84 fd_Pt_15 rfl e_v3 ?_
      refine k_iload_n (pc := 87) rfl z_m1 d_Pt_insert_87 ?_
      refine k_iload_n (pc := 88) rfl z_m3 d_Pt_insert_88 ?_
      obtain ⟨h4, e_h4, hf⟩ := z_bd hf
      refine k_iast (pc := 89) d_Pt_insert_89 e_h4 ?_
      refine k_aload_n (pc := 90) rfl z_m0 d_Pt_insert_90 ?_
      obtain ⟨v5, e_v5, hf⟩ := z_bd hf
      refine k_getR (pc := 91) d_Pt_insert_91 fd_Pt_18 rfl e_v5 ?_
      refine k_iload_n (pc := 94) rfl z_m1 d_Pt_insert_94 ?_
      refine k_iload (pc := 95) z_m4 d_Pt_insert_95 ?_
      obtain ⟨h6, e_h6, hf⟩ := z_bd hf
      refine k_iast (pc := 97) d_Pt_insert_97 e_h6 ?_
      refine k_aload_n (pc := 98) rfl z_m0 d_Pt_insert_98 ?_
      refine k_dup (pc := 99) (Or.inr rfl) d_Pt_insert_99 ?_
      obtain ⟨v7, e_v7, hf⟩ := z_bd hf
      refine k_getI (pc := 100) d_Pt_insert_100 fd_Pt_28 rfl e_v7 ?_
      refine k_iconst (pc := 103) (zi_lit rfl) d_Pt_insert_103 ?_
      refine k_iadd (pc := 104) d_Pt_insert_104 ?_
      obtain ⟨h8, e_h8, hf⟩ := z_bd hf
      refine k_putI (pc := 105) d_Pt_insert_105 fd_Pt_28 (fun q => by cases q) rfl e_h8 ?_
      cases hf
      exact k_ret (pc := 108) d_Pt_insert_108 rfl
    · refine k_ic_le_f (pc := 19) (tgt := 76) w21 d_Pt_insert_19 rfl ?_
      refine k_aload_n (pc := 22) rfl z_m0 d_Pt_insert_22 ?_
      obtain ⟨v9, e_v9, hf⟩ := z_bd hf
      refine k_getR (pc := 23) d_Pt_insert_23 fd_Pt_11 rfl e_v9 ?_
      refine k_iload (pc := 26) z_m5 d_Pt_insert_26 ?_
      refine k_aload_n (pc := 28) rfl z_m0 d_Pt_insert_28 ?_
      obtain ⟨v10, e_v10, hf⟩ := z_bd hf
      refine k_getR (pc := 29) d_Pt_insert_29 fd_Pt_11 rfl e_v10 ?_
      refine k_iload (pc := 32) z_m5 d_Pt_insert_32 ?_
      refine k_iconst (pc := 34) (zi_lit rfl) d_Pt_insert_34 ?_
      refine k_isub (pc := 35) d_Pt_insert_35 ?_
      obtain ⟨v11, e_v11, hf⟩ := z_bd hf
      refine k_iald (pc := 36) d_Pt_insert_36 e_v11 ?_
      obtain ⟨h12, e_h12, hf⟩ := z_bd hf
      refine k_iast (pc := 37) d_Pt_insert_37 e_h12 ?_
      refine k_aload_n (pc := 38) rfl z_m0 d_Pt_insert_38 ?_
      obtain ⟨v13, e_v13, hf⟩ := z_bd hf
      refine k_getR (pc := 39) d_Pt_insert_39 fd_Pt_15 rfl e_v13 ?_
      refine k_iload (pc := 42) z_m5 d_Pt_insert_42 ?_
      refine k_aload_n (pc := 44) rfl z_m0 d_Pt_insert_44 ?_
      obtain ⟨v14, e_v14, hf⟩ := z_bd hf
      refine k_getR (pc := 45) d_Pt_insert_45 fd_Pt_15 rfl e_v14 ?_
      refine k_iload (pc := 48) z_m5 d_Pt_insert_48 ?_
      refine k_iconst (pc := 50) (zi_lit rfl) d_Pt_insert_50 ?_
      refine k_isub (pc := 51) d_Pt_insert_51 ?_
      obtain ⟨v15, e_v15, hf⟩ := z_bd hf
      refine k_iald (pc := 52) d_Pt_insert_52 e_v15 ?_
      obtain ⟨h16, e_h16, hf⟩ := z_bd hf
      refine k_iast (pc := 53) d_Pt_insert_53 e_h16 ?_
      refine k_aload_n (pc := 54) rfl z_m0 d_Pt_insert_54 ?_
      obtain ⟨v17, e_v17, hf⟩ := z_bd hf
      refine k_getR (pc := 55) d_Pt_insert_55 fd_Pt_18 rfl e_v17 ?_
      refine k_iload (pc := 58) z_m5 d_Pt_insert_58 ?_
      refine k_aload_n (pc := 60) rfl z_m0 d_Pt_insert_60 ?_
      obtain ⟨v18, e_v18, hf⟩ := z_bd hf
      refine k_getR (pc := 61) d_Pt_insert_61 fd_Pt_18 rfl e_v18 ?_
      refine k_iload (pc := 64) z_m5 d_Pt_insert_64 ?_
      refine k_iconst (pc := 66) (zi_lit rfl) d_Pt_insert_66 ?_
      refine k_isub (pc := 67) d_Pt_insert_67 ?_
      obtain ⟨v19, e_v19, hf⟩ := z_bd hf
      refine k_iald (pc := 68) d_Pt_insert_68 e_v19 ?_
      obtain ⟨h20, e_h20, hf⟩ := z_bd hf
      refine k_iast (pc := 69) d_Pt_insert_69 e_h20 ?_
      refine k_iinc (pc := 70) (L' := [(5, (0, zw (a5 + (-1)))), (0, (2, ((a0 : Nat) : Int))), (1, (0, a1)), (2, (0, a2)), (3, (0, a3)), (4, (0, a4))]) z_m5 d_Pt_insert_70 (Nat.le_of_ble_eq_true rfl) rfl ?_
      refine k_goto (pc := 73) (tgt := 16) d_Pt_insert_73 rfl ?_
      refine k_sub [1, 2, 3, 4, 5, 0] rfl ?_
      exact ih a0 a1 a2 a3 a4 (zw (a5 + (-1))) h20 _ hf
theorem b_Pt_insert_0 (a0 : Nat) (a1 : Int) (a2 : Int) (a3 : Int) (a4 : Int) (h : zH) (r : zH) (hf : f_Pt_insert a0 a1 a2 a3 a4 h = some r) : zK m_Pt_insert 0 [(0, (2, ((a0 : Nat) : Int))), (1, (0, a1)), (2, (0, a2)), (3, (0, a3)), (4, (0, a4))] [] h (none, r) := by
  unfold f_Pt_insert at hf
  refine k_aload_n (pc := 0) rfl z_m0 d_Pt_insert_0 ?_
  obtain ⟨v22, e_v22, hf⟩ := z_bd hf
  refine k_getI (pc := 1) d_Pt_insert_1 fd_Pt_28 rfl e_v22 ?_
  refine k_bipush (pc := 4) (zi_lit rfl) (by decide) d_Pt_insert_4 ?_
  rcases z_it hf with ⟨w24, hf⟩ | ⟨w24, hf⟩
  · refine k_ic_ne_f (pc := 6) (tgt := 10) w24 d_Pt_insert_6 rfl ?_
    cases hf
    exact k_ret (pc := 9) d_Pt_insert_9 rfl
  · refine k_ic_ne_t (pc := 6) (tgt := 10) w24 d_Pt_insert_6 rfl ?_
    refine k_aload_n (pc := 10) rfl z_m0 d_Pt_insert_10 ?_
    obtain ⟨v23, e_v23, hf⟩ := z_bd hf
    refine k_getI (pc := 11) d_Pt_insert_11 fd_Pt_28 rfl e_v23 ?_
    refine k_istore (pc := 14) (L' := [(5, (0, v23)), (0, (2, ((a0 : Nat) : Int))), (1, (0, a1)), (2, (0, a2)), (3, (0, a3)), (4, (0, a4))]) d_Pt_insert_14 (Nat.le_of_ble_eq_true rfl) rfl ?_
    refine k_sub [1, 2, 3, 4, 5, 0] rfl ?_
    exact b_Pt_insert_16 100000 a0 a1 a2 a3 a4 v23 h _ hf
theorem t_Pt_insert {a0 : Nat} {a1 : Int} {a2 : Int} {a3 : Int} {a4 : Int} {h : zH} {r : zH} (hf : f_Pt_insert a0 a1 a2 a3 a4 h = some r) : zMt m_Pt_insert [(2, ((a0 : Nat) : Int)), (0, a1), (0, a2), (0, a3), (0, a4)] h (none, r) := zMt.of (by decide) (Nat.le_of_ble_eq_true rfl) (b_Pt_insert_0 a0 a1 a2 a3 a4 h r hf)
theorem b_Pt_append_0 (a0 : Nat) (a1 : Int) (a2 : Int) (h : zH) (r : zH) (hf : f_Pt_append a0 a1 a2 h = some r) : zK m_Pt_append 0 [(0, (2, ((a0 : Nat) : Int))), (1, (0, a1)), (2, (0, a2))] [] h (none, r) := by
  unfold f_Pt_append at hf
  refine k_aload_n (pc := 0) rfl z_m0 d_Pt_append_0 ?_
  refine k_aload_n (pc := 1) rfl z_m0 d_Pt_append_1 ?_
  obtain ⟨v1, e_v1, hf⟩ := z_bd hf
  refine k_getI (pc := 2) d_Pt_append_2 fd_Pt_28 rfl e_v1 ?_
  refine k_iload_n (pc := 5) rfl z_m1 d_Pt_append_5 ?_
  refine k_iload_n (pc := 6) rfl z_m2 d_Pt_append_6 ?_
  refine k_iconst (pc := 7) (zi_lit rfl) d_Pt_append_7 ?_
  obtain ⟨n2, e_n2, hf⟩ := z_bd hf
  obtain ⟨h3, e_h3, hf⟩ := z_bd hf
  refine k_callVv (pc := 8) (as := [(0, v1), (0, a1), (0, a2), (0, 0)]) (rest := []) d_Pt_append_8 cw_Pt_append_35 rfl (Nat.le_of_ble_eq_true rfl) (z_ck_of e_n2) (t_Pt_insert e_h3) ?_
  cases hf
  exact k_ret (pc := 11) d_Pt_append_11 rfl
theorem t_Pt_append {a0 : Nat} {a1 : Int} {a2 : Int} {h : zH} {r : zH} (hf : f_Pt_append a0 a1 a2 h = some r) : zMt m_Pt_append [(2, ((a0 : Nat) : Int)), (0, a1), (0, a2)] h (none, r) := zMt.of (by decide) (Nat.le_of_ble_eq_true rfl) (b_Pt_append_0 a0 a1 a2 h r hf)
theorem b_Pt_endBranch_0 (a0 : Nat) (a1 : Int) (h : zH) (r : zH) (hf : f_Pt_endBranch a0 a1 h = some r) : zK m_Pt_endBranch 0 [(0, (2, ((a0 : Nat) : Int))), (1, (0, a1))] [] h (none, r) := by
  unfold f_Pt_endBranch at hf
  refine k_aload_n (pc := 0) rfl z_m0 d_Pt_endBranch_0 ?_
  refine k_iload_n (pc := 1) rfl z_m1 d_Pt_endBranch_1 ?_
  refine k_bipush (pc := 2) (zi_lit rfl) (by decide) d_Pt_endBranch_2 ?_
  refine k_iconst (pc := 4) (zi_lit rfl) d_Pt_endBranch_4 ?_
  refine k_aload_n (pc := 5) rfl z_m0 d_Pt_endBranch_5 ?_
  obtain ⟨v1, e_v1, hf⟩ := z_bd hf
  refine k_getI (pc := 6) d_Pt_endBranch_6 fd_Pt_28 rfl e_v1 ?_
  refine k_iload_n (pc := 9) rfl z_m1 d_Pt_endBranch_9 ?_
  refine k_isub (pc := 10) d_Pt_endBranch_10 ?_
  refine k_iconst (pc := 11) (zi_lit rfl) d_Pt_endBranch_11 ?_
  refine k_iadd (pc := 12) d_Pt_endBranch_12 ?_
  obtain ⟨n2, e_n2, hf⟩ := z_bd hf
  obtain ⟨h3, e_h3, hf⟩ := z_bd hf
  refine k_callVv (pc := 13) (as := [(0, a1), (0, 6), (0, 1), (0, zw ((zw (v1 - a1)) + 2))]) (rest := []) d_Pt_endBranch_13 cw_Pt_endBranch_35 rfl (Nat.le_of_ble_eq_true rfl) (z_ck_of e_n2) (t_Pt_insert e_h3) ?_
  refine k_aload_n (pc := 16) rfl z_m0 d_Pt_endBranch_16 ?_
  refine k_bipush (pc := 17) (zi_lit rfl) (by decide) d_Pt_endBranch_17 ?_
  refine k_iconst (pc := 19) (zi_lit rfl) d_Pt_endBranch_19 ?_
  obtain ⟨n4, e_n4, hf⟩ := z_bd hf
  obtain ⟨h5, e_h5, hf⟩ := z_bd hf
  refine k_callVv (pc := 20) (as := [(0, 7), (0, 0)]) (rest := []) d_Pt_endBranch_20 cw_Pt_endBranch_39 rfl (Nat.le_of_ble_eq_true rfl) (z_ck_of e_n4) (t_Pt_append e_h5) ?_
  cases hf
  exact k_ret (pc := 23) d_Pt_endBranch_23 rfl
theorem t_Pt_endBranch {a0 : Nat} {a1 : Int} {h : zH} {r : zH} (hf : f_Pt_endBranch a0 a1 h = some r) : zMt m_Pt_endBranch [(2, ((a0 : Nat) : Int)), (0, a1)] h (none, r) := zMt.of (by decide) (Nat.le_of_ble_eq_true rfl) (b_Pt_endBranch_0 a0 a1 h r hf)
theorem b_Pr_endBranch_76 (a0 : Nat) (s0 : Nat) (s1 : Int) (s2 : Int) (h : zH) (r : zH) (hf : f_Pr_endBranch_76 a0 s0 s1 s2 h = some r) : zK m_Pr_endBranch 76 [(0, (2, ((a0 : Nat) : Int)))] [(0, s2), (0, s1), (2, ((s0 : Nat) : Int))] h (none, r) := by
  unfold f_Pr_endBranch_76 at hf
  obtain ⟨h1, e_h1, hf⟩ := z_bd hf
  refine k_zast (pc := 76) d_Pr_endBranch_76 e_h1 ?_
  refine k_aload_n (pc := 77) rfl z_m0 d_Pr_endBranch_77 ?_
  obtain ⟨v2, e_v2, hf⟩ := z_bd hf
  refine k_getR (pc := 78) d_Pr_endBranch_78 fd_Pr_28 rfl e_v2 ?_
  refine k_aload_n (pc := 81) rfl z_m0 d_Pr_endBranch_81 ?_
  obtain ⟨v3, e_v3, hf⟩ := z_bd hf
  refine k_getI (pc := 82) d_Pr_endBranch_82 fd_Pr_62 rfl e_v3 ?_
  refine k_iconst (pc := 85) (zi_lit rfl) d_Pr_endBranch_85 ?_
  obtain ⟨h4, e_h4, hf⟩ := z_bd hf
  refine k_zast (pc := 86) d_Pr_endBranch_86 e_h4 ?_
  cases hf
  exact k_ret (pc := 87) d_Pr_endBranch_87 rfl
theorem b_Pr_endBranch_71 (a0 : Nat) (s0 : Nat) (s1 : Int) (h : zH) (r : zH) (hf : f_Pr_endBranch_71 a0 s0 s1 h = some r) : zK m_Pr_endBranch 71 [(0, (2, ((a0 : Nat) : Int)))] [(0, s1), (2, ((s0 : Nat) : Int))] h (none, r) := by
  unfold f_Pr_endBranch_71 at hf
  refine k_iconst (pc := 71) (zi_lit rfl) d_Pr_endBranch_71 ?_
  refine k_goto (pc := 72) (tgt := 76) d_Pr_endBranch_72 rfl ?_
  exact b_Pr_endBranch_76 a0 s0 s1 1 h _ hf
theorem b_Pr_endBranch_0 (a0 : Nat) (a1 : Nat) (h : zH) (r : zH) (hf : f_Pr_endBranch a0 a1 h = some r) : zK m_Pr_endBranch 0 [(0, (2, ((a0 : Nat) : Int))), (1, (2, ((a1 : Nat) : Int)))] [] h (none, r) := by
  unfold f_Pr_endBranch at hf
  refine k_aload_n (pc := 0) rfl z_m1 d_Pr_endBranch_0 ?_
  refine k_aload_n (pc := 1) rfl z_m0 d_Pr_endBranch_1 ?_
  obtain ⟨v5, e_v5, hf⟩ := z_bd hf
  refine k_getR (pc := 2) d_Pr_endBranch_2 fd_Pr_22 rfl e_v5 ?_
  refine k_aload_n (pc := 5) rfl z_m0 d_Pr_endBranch_5 ?_
  obtain ⟨v6, e_v6, hf⟩ := z_bd hf
  refine k_getI (pc := 6) d_Pr_endBranch_6 fd_Pr_62 rfl e_v6 ?_
  obtain ⟨v7, e_v7, hf⟩ := z_bd hf
  refine k_iald (pc := 9) d_Pr_endBranch_9 e_v7 ?_
  obtain ⟨n8, e_n8, hf⟩ := z_bd hf
  obtain ⟨h9, e_h9, hf⟩ := z_bd hf
  refine k_callVv (pc := 10) (as := [(0, v7)]) (rest := []) d_Pr_endBranch_10 cw_Pr_endBranch_107 rfl (Nat.le_of_ble_eq_true rfl) (z_ck_of e_n8) (t_Pt_endBranch e_h9) ?_
  refine k_aload_n (pc := 13) rfl z_m0 d_Pr_endBranch_13 ?_
  obtain ⟨v10, e_v10, hf⟩ := z_bd hf
  refine k_getR (pc := 14) d_Pr_endBranch_14 fd_Pr_25 rfl e_v10 ?_
  refine k_aload_n (pc := 17) rfl z_m0 d_Pr_endBranch_17 ?_
  obtain ⟨v11, e_v11, hf⟩ := z_bd hf
  refine k_getI (pc := 18) d_Pr_endBranch_18 fd_Pr_62 rfl e_v11 ?_
  refine k_dup2 (pc := 21) (Or.inl rfl) (Or.inr rfl) d_Pr_endBranch_21 ?_
  obtain ⟨v12, e_v12, hf⟩ := z_bd hf
  refine k_iald (pc := 22) d_Pr_endBranch_22 e_v12 ?_
  refine k_iconst (pc := 23) (zi_lit rfl) d_Pr_endBranch_23 ?_
  refine k_iadd (pc := 24) d_Pr_endBranch_24 ?_
  obtain ⟨h13, e_h13, hf⟩ := z_bd hf
  refine k_iast (pc := 25) d_Pr_endBranch_25 e_h13 ?_
  refine k_aload_n (pc := 26) rfl z_m0 d_Pr_endBranch_26 ?_
  obtain ⟨v14, e_v14, hf⟩ := z_bd hf
  refine k_getR (pc := 27) d_Pr_endBranch_27 fd_Pr_22 rfl e_v14 ?_
  refine k_aload_n (pc := 30) rfl z_m0 d_Pr_endBranch_30 ?_
  obtain ⟨v15, e_v15, hf⟩ := z_bd hf
  refine k_getI (pc := 31) d_Pr_endBranch_31 fd_Pr_62 rfl e_v15 ?_
  refine k_aload_n (pc := 34) rfl z_m1 d_Pr_endBranch_34 ?_
  obtain ⟨v16, e_v16, hf⟩ := z_bd hf
  refine k_getI (pc := 35) d_Pr_endBranch_35 fd_Pr_95 rfl e_v16 ?_
  obtain ⟨h17, e_h17, hf⟩ := z_bd hf
  refine k_iast (pc := 38) d_Pr_endBranch_38 e_h17 ?_
  refine k_aload_n (pc := 39) rfl z_m0 d_Pr_endBranch_39 ?_
  obtain ⟨v18, e_v18, hf⟩ := z_bd hf
  refine k_getR (pc := 40) d_Pr_endBranch_40 fd_Pr_32 rfl e_v18 ?_
  refine k_aload_n (pc := 43) rfl z_m0 d_Pr_endBranch_43 ?_
  obtain ⟨v19, e_v19, hf⟩ := z_bd hf
  refine k_getI (pc := 44) d_Pr_endBranch_44 fd_Pr_62 rfl e_v19 ?_
  refine k_aload_n (pc := 47) rfl z_m0 d_Pr_endBranch_47 ?_
  obtain ⟨v20, e_v20, hf⟩ := z_bd hf
  refine k_getR (pc := 48) d_Pr_endBranch_48 fd_Pr_32 rfl e_v20 ?_
  refine k_aload_n (pc := 51) rfl z_m0 d_Pr_endBranch_51 ?_
  obtain ⟨v21, e_v21, hf⟩ := z_bd hf
  refine k_getI (pc := 52) d_Pr_endBranch_52 fd_Pr_62 rfl e_v21 ?_
  obtain ⟨v22, e_v22, hf⟩ := z_bd hf
  refine k_zald (pc := 55) d_Pr_endBranch_55 e_v22 ?_
  rcases z_it hf with ⟨w27, hf⟩ | ⟨w27, hf⟩
  · refine k_if_ne_f (pc := 56) (tgt := 71) w27 d_Pr_endBranch_56 rfl ?_
    refine k_aload_n (pc := 59) rfl z_m0 d_Pr_endBranch_59 ?_
    obtain ⟨v23, e_v23, hf⟩ := z_bd hf
    refine k_getR (pc := 60) d_Pr_endBranch_60 fd_Pr_28 rfl e_v23 ?_
    refine k_aload_n (pc := 63) rfl z_m0 d_Pr_endBranch_63 ?_
    obtain ⟨v24, e_v24, hf⟩ := z_bd hf
    refine k_getI (pc := 64) d_Pr_endBranch_64 fd_Pr_62 rfl e_v24 ?_
    obtain ⟨v25, e_v25, hf⟩ := z_bd hf
    refine k_zald (pc := 67) d_Pr_endBranch_67 e_v25 ?_
    rcases z_it hf with ⟨w26, hf⟩ | ⟨w26, hf⟩
    · refine k_if_eq_t (pc := 68) (tgt := 75) w26 d_Pr_endBranch_68 rfl ?_
      refine k_iconst (pc := 75) (zi_lit rfl) d_Pr_endBranch_75 ?_
      refine k_sub [0] rfl ?_
      exact b_Pr_endBranch_76 a0 v18 v19 0 h17 _ hf
    · refine k_if_eq_f (pc := 68) (tgt := 75) w26 d_Pr_endBranch_68 rfl ?_
      refine k_sub [0] rfl ?_
      exact b_Pr_endBranch_71 a0 v18 v19 h17 _ hf
  · refine k_if_ne_t (pc := 56) (tgt := 71) w27 d_Pr_endBranch_56 rfl ?_
    refine k_sub [0] rfl ?_
    exact b_Pr_endBranch_71 a0 v18 v19 h17 _ hf
theorem t_Pr_endBranch {a0 : Nat} {a1 : Nat} {h : zH} {r : zH} (hf : f_Pr_endBranch a0 a1 h = some r) : zMt m_Pr_endBranch [(2, ((a0 : Nat) : Int)), (2, ((a1 : Nat) : Int))] h (none, r) := zMt.of (by decide) (Nat.le_of_ble_eq_true rfl) (b_Pr_endBranch_0 a0 a1 h r hf)
theorem b_Pr_openGroup_0 (a0 : Nat) (a1 : Nat) (h : zH) (r : zH) (hf : f_Pr_openGroup a0 a1 h = some r) : zK m_Pr_openGroup 0 [(0, (2, ((a0 : Nat) : Int))), (1, (2, ((a1 : Nat) : Int)))] [] h (none, r) := by
  unfold f_Pr_openGroup at hf
  refine k_aload_n (pc := 0) rfl z_m0 d_Pr_openGroup_0 ?_
  obtain ⟨v1, e_v1, hf⟩ := z_bd hf
  refine k_getI (pc := 1) d_Pr_openGroup_1 fd_Pr_59 rfl e_v1 ?_
  refine k_iconst (pc := 4) (zi_lit rfl) d_Pr_openGroup_4 ?_
  rcases z_it hf with ⟨w17, hf⟩ | ⟨w17, hf⟩
  · refine k_ic_ne_f (pc := 5) (tgt := 14) w17 d_Pr_openGroup_5 rfl ?_
    refine k_aload_n (pc := 8) rfl z_m0 d_Pr_openGroup_8 ?_
    refine k_iconst (pc := 9) (zi_lit rfl) d_Pr_openGroup_9 ?_
    obtain ⟨h16, e_h16, hf⟩ := z_bd hf
    refine k_putZ (pc := 10) d_Pr_openGroup_10 fd_Pr_56 (fun q => by cases q) rfl e_h16 ?_
    cases hf
    exact k_ret (pc := 13) d_Pr_openGroup_13 rfl
  · refine k_ic_ne_t (pc := 5) (tgt := 14) w17 d_Pr_openGroup_5 rfl ?_
    refine k_aload_n (pc := 14) rfl z_m1 d_Pr_openGroup_14 ?_
    refine k_bipush (pc := 15) (zi_lit rfl) (by decide) d_Pr_openGroup_15 ?_
    refine k_iconst (pc := 17) (zi_lit rfl) d_Pr_openGroup_17 ?_
    refine k_aload_n (pc := 18) rfl z_m0 d_Pr_openGroup_18 ?_
    obtain ⟨v2, e_v2, hf⟩ := z_bd hf
    refine k_getI (pc := 19) d_Pr_openGroup_19 fd_Pr_59 rfl e_v2 ?_
    refine k_imul (pc := 22) d_Pr_openGroup_22 ?_
    obtain ⟨n3, e_n3, hf⟩ := z_bd hf
    obtain ⟨h4, e_h4, hf⟩ := z_bd hf
    refine k_callVv (pc := 23) (as := [(0, 8), (0, zw (2 * v2))]) (rest := []) d_Pr_openGroup_23 cw_Pr_openGroup_82 rfl (Nat.le_of_ble_eq_true rfl) (z_ck_of e_n3) (t_Pt_append e_h4) ?_
    refine k_aload_n (pc := 26) rfl z_m0 d_Pr_openGroup_26 ?_
    refine k_dup (pc := 27) (Or.inr rfl) d_Pr_openGroup_27 ?_
    obtain ⟨v5, e_v5, hf⟩ := z_bd hf
    refine k_getI (pc := 28) d_Pr_openGroup_28 fd_Pr_59 rfl e_v5 ?_
    refine k_iconst (pc := 31) (zi_lit rfl) d_Pr_openGroup_31 ?_
    refine k_iadd (pc := 32) d_Pr_openGroup_32 ?_
    obtain ⟨h6, e_h6, hf⟩ := z_bd hf
    refine k_putI (pc := 33) d_Pr_openGroup_33 fd_Pr_59 (fun q => by cases q) rfl e_h6 ?_
    refine k_aload_n (pc := 36) rfl z_m0 d_Pr_openGroup_36 ?_
    refine k_dup (pc := 37) (Or.inr rfl) d_Pr_openGroup_37 ?_
    obtain ⟨v7, e_v7, hf⟩ := z_bd hf
    refine k_getI (pc := 38) d_Pr_openGroup_38 fd_Pr_62 rfl e_v7 ?_
    refine k_iconst (pc := 41) (zi_lit rfl) d_Pr_openGroup_41 ?_
    refine k_iadd (pc := 42) d_Pr_openGroup_42 ?_
    obtain ⟨h8, e_h8, hf⟩ := z_bd hf
    refine k_putI (pc := 43) d_Pr_openGroup_43 fd_Pr_62 (fun q => by cases q) rfl e_h8 ?_
    refine k_aload_n (pc := 46) rfl z_m0 d_Pr_openGroup_46 ?_
    obtain ⟨v9, e_v9, hf⟩ := z_bd hf
    refine k_getR (pc := 47) d_Pr_openGroup_47 fd_Pr_15 rfl e_v9 ?_
    refine k_aload_n (pc := 50) rfl z_m0 d_Pr_openGroup_50 ?_
    obtain ⟨v10, e_v10, hf⟩ := z_bd hf
    refine k_getI (pc := 51) d_Pr_openGroup_51 fd_Pr_62 rfl e_v10 ?_
    refine k_aload_n (pc := 54) rfl z_m0 d_Pr_openGroup_54 ?_
    obtain ⟨v11, e_v11, hf⟩ := z_bd hf
    refine k_getI (pc := 55) d_Pr_openGroup_55 fd_Pr_59 rfl e_v11 ?_
    obtain ⟨h12, e_h12, hf⟩ := z_bd hf
    refine k_iast (pc := 58) d_Pr_openGroup_58 e_h12 ?_
    refine k_aload_n (pc := 59) rfl z_m0 d_Pr_openGroup_59 ?_
    refine k_aload_n (pc := 60) rfl z_m1 d_Pr_openGroup_60 ?_
    obtain ⟨v13, e_v13, hf⟩ := z_bd hf
    refine k_getI (pc := 61) d_Pr_openGroup_61 fd_Pr_95 rfl e_v13 ?_
    obtain ⟨n14, e_n14, hf⟩ := z_bd hf
    obtain ⟨h15, e_h15, hf⟩ := z_bd hf
    refine k_callVv (pc := 64) (as := [(0, v13)]) (rest := []) d_Pr_openGroup_64 cw_Pr_openGroup_70 rfl (Nat.le_of_ble_eq_true rfl) (z_ck_of e_n14) (t_Pr_openLevel e_h15) ?_
    cases hf
    exact k_ret (pc := 67) d_Pr_openGroup_67 rfl
theorem t_Pr_openGroup {a0 : Nat} {a1 : Nat} {h : zH} {r : zH} (hf : f_Pr_openGroup a0 a1 h = some r) : zMt m_Pr_openGroup [(2, ((a0 : Nat) : Int)), (2, ((a1 : Nat) : Int))] h (none, r) := zMt.of (by decide) (Nat.le_of_ble_eq_true rfl) (b_Pr_openGroup_0 a0 a1 h r hf)
theorem b_Pt_joinBranches_5 : ∀ (n : Nat) (a0 : Nat) (a2 : Int) (a3 : Int) (a4 : Int) (h : zH) (r : zH), f_Pt_joinBranches_5 n a0 a2 a3 a4 h = some r → zK m_Pt_joinBranches 5 [(0, (2, ((a0 : Nat) : Int))), (2, (0, a2)), (3, (0, a3)), (4, (0, a4))] [] h (none, r) := by
  intro n
  induction n with
  | zero =>
    intro a0 a2 a3 a4 h r hf
    cases hf
  | succ n ih =>
    intro a0 a2 a3 a4 h r hf
    unfold f_Pt_joinBranches_5 at hf
    refine k_iload (pc := 5) z_m3 d_Pt_joinBranches_5 ?_
    refine k_iload_n (pc := 7) rfl z_m1 d_Pt_joinBranches_7 ?_
    rcases z_it hf with ⟨w6, hf⟩ | ⟨w6, hf⟩
    · refine k_ic_ge_t (pc := 8) (tgt := 48) w6 d_Pt_joinBranches_8 rfl ?_
      cases hf
      exact k_ret (pc := 48) d_Pt_joinBranches_48 rfl
    · refine k_ic_ge_f (pc := 8) (tgt := 48) w6 d_Pt_joinBranches_8 rfl ?_
      refine k_iload_n (pc := 11) rfl z_m2 d_Pt_joinBranches_11 ?_
      refine k_aload_n (pc := 12) rfl z_m0 d_Pt_joinBranches_12 ?_
      obtain ⟨v1, e_v1, hf⟩ := z_bd hf
      refine k_getR (pc := 13) d_Pt_joinBranches_13 fd_Pt_18 rfl e_v1 ?_
      refine k_iload_n (pc := 16) rfl z_m2 d_Pt_joinBranches_16 ?_
      obtain ⟨v2, e_v2, hf⟩ := z_bd hf
      refine k_iald (pc := 17) d_Pt_joinBranches_17 e_v2 ?_
      refine k_iadd (pc := 18) d_Pt_joinBranches_18 ?_
      refine k_istore (pc := 19) (L' := [(5, (0, zw (a3 + v2))), (0, (2, ((a0 : Nat) : Int))), (2, (0, a2)), (3, (0, a3)), (4, (0, a4))]) d_Pt_joinBranches_19 (Nat.le_of_ble_eq_true rfl) rfl ?_
      refine k_aload_n (pc := 21) rfl z_m1 d_Pt_joinBranches_21 ?_
      obtain ⟨v3, e_v3, hf⟩ := z_bd hf
      refine k_getR (pc := 22) d_Pt_joinBranches_22 fd_Pt_15 rfl e_v3 ?_
      refine k_iload (pc := 25) z_m0 d_Pt_joinBranches_25 ?_
      refine k_iconst (pc := 27) (zi_lit rfl) d_Pt_joinBranches_27 ?_
      refine k_isub (pc := 28) d_Pt_joinBranches_28 ?_
      refine k_aload_n (pc := 29) rfl z_m1 d_Pt_joinBranches_29 ?_
      obtain ⟨v4, e_v4, hf⟩ := z_bd hf
      refine k_getI (pc := 30) d_Pt_joinBranches_30 fd_Pt_28 rfl e_v4 ?_
      refine k_iload (pc := 33) z_m0 d_Pt_joinBranches_33 ?_
      refine k_iconst (pc := 35) (zi_lit rfl) d_Pt_joinBranches_35 ?_
      refine k_isub (pc := 36) d_Pt_joinBranches_36 ?_
      refine k_isub (pc := 37) d_Pt_joinBranches_37 ?_
      obtain ⟨h5, e_h5, hf⟩ := z_bd hf
      refine k_iast (pc := 38) d_Pt_joinBranches_38 e_h5 ?_
      refine k_iload (pc := 39) z_m0 d_Pt_joinBranches_39 ?_
      refine k_istore_n (pc := 41) (L' := [(3, (0, zw (a3 + v2))), (5, (0, zw (a3 + v2))), (0, (2, ((a0 : Nat) : Int))), (2, (0, a2)), (4, (0, a4))]) rfl d_Pt_joinBranches_41 (Nat.le_of_ble_eq_true rfl) rfl ?_
      refine k_iinc (pc := 42) (L' := [(4, (0, zw (a4 + 1))), (3, (0, zw (a3 + v2))), (5, (0, zw (a3 + v2))), (0, (2, ((a0 : Nat) : Int))), (2, (0, a2))]) z_m4 d_Pt_joinBranches_42 (Nat.le_of_ble_eq_true rfl) rfl ?_
      refine k_goto (pc := 45) (tgt := 5) d_Pt_joinBranches_45 rfl ?_
      refine k_sub [3, 4, 1, 0] rfl ?_
      exact ih a0 a2 (zw (a3 + v2)) (zw (a4 + 1)) h5 _ hf
theorem b_Pt_joinBranches_0 (a0 : Nat) (a1 : Int) (a2 : Int) (h : zH) (r : zH) (hf : f_Pt_joinBranches a0 a1 a2 h = some r) : zK m_Pt_joinBranches 0 [(0, (2, ((a0 : Nat) : Int))), (1, (0, a1)), (2, (0, a2))] [] h (none, r) := by
  unfold f_Pt_joinBranches at hf
  refine k_iload_n (pc := 0) rfl z_m1 d_Pt_joinBranches_0 ?_
  refine k_istore_n (pc := 1) (L' := [(3, (0, a1)), (0, (2, ((a0 : Nat) : Int))), (1, (0, a1)), (2, (0, a2))]) rfl d_Pt_joinBranches_1 (Nat.le_of_ble_eq_true rfl) rfl ?_
  refine k_iconst (pc := 2) (zi_lit rfl) d_Pt_joinBranches_2 ?_
  refine k_istore (pc := 3) (L' := [(4, (0, 0)), (3, (0, a1)), (0, (2, ((a0 : Nat) : Int))), (1, (0, a1)), (2, (0, a2))]) d_Pt_joinBranches_3 (Nat.le_of_ble_eq_true rfl) rfl ?_
  refine k_sub [2, 4, 1, 0] rfl ?_
  exact b_Pt_joinBranches_5 100000 a0 a2 a1 0 h _ hf
theorem t_Pt_joinBranches {a0 : Nat} {a1 : Int} {a2 : Int} {h : zH} {r : zH} (hf : f_Pt_joinBranches a0 a1 a2 h = some r) : zMt m_Pt_joinBranches [(2, ((a0 : Nat) : Int)), (0, a1), (0, a2)] h (none, r) := zMt.of (by decide) (Nat.le_of_ble_eq_true rfl) (b_Pt_joinBranches_0 a0 a1 a2 h r hf)
theorem b_Pr_closeLevel_46 (h : zH) (r : Int × zH) (hf : f_Pr_closeLevel_46 h = some r) : zK m_Pr_closeLevel 46 [] [] h (some (0, r.1), r.2) := by
  unfold f_Pr_closeLevel_46 at hf
  refine k_iconst (pc := 46) (zi_lit rfl) d_Pr_closeLevel_46 ?_
  refine k_goto (pc := 47) (tgt := 51) d_Pr_closeLevel_47 rfl ?_
  cases hf
  exact k_zret (pc := 51) d_Pr_closeLevel_51 rfl (Or.inr rfl)
theorem b_Pr_closeLevel_0 (a0 : Nat) (a1 : Nat) (h : zH) (r : Int × zH) (hf : f_Pr_closeLevel a0 a1 h = some r) : zK m_Pr_closeLevel 0 [(0, (2, ((a0 : Nat) : Int))), (1, (2, ((a1 : Nat) : Int)))] [] h (some (0, r.1), r.2) := by
  unfold f_Pr_closeLevel at hf
  refine k_aload_n (pc := 0) rfl z_m1 d_Pr_closeLevel_0 ?_
  refine k_aload_n (pc := 1) rfl z_m0 d_Pr_closeLevel_1 ?_
  obtain ⟨v1, e_v1, hf⟩ := z_bd hf
  refine k_getR (pc := 2) d_Pr_closeLevel_2 fd_Pr_19 rfl e_v1 ?_
  refine k_aload_n (pc := 5) rfl z_m0 d_Pr_closeLevel_5 ?_
  obtain ⟨v2, e_v2, hf⟩ := z_bd hf
  refine k_getI (pc := 6) d_Pr_closeLevel_6 fd_Pr_62 rfl e_v2 ?_
  obtain ⟨v3, e_v3, hf⟩ := z_bd hf
  refine k_iald (pc := 9) d_Pr_closeLevel_9 e_v3 ?_
  refine k_aload_n (pc := 10) rfl z_m0 d_Pr_closeLevel_10 ?_
  obtain ⟨v4, e_v4, hf⟩ := z_bd hf
  refine k_getR (pc := 11) d_Pr_closeLevel_11 fd_Pr_25 rfl e_v4 ?_
  refine k_aload_n (pc := 14) rfl z_m0 d_Pr_closeLevel_14 ?_
  obtain ⟨v5, e_v5, hf⟩ := z_bd hf
  refine k_getI (pc := 15) d_Pr_closeLevel_15 fd_Pr_62 rfl e_v5 ?_
  obtain ⟨v6, e_v6, hf⟩ := z_bd hf
  refine k_iald (pc := 18) d_Pr_closeLevel_18 e_v6 ?_
  obtain ⟨n7, e_n7, hf⟩ := z_bd hf
  obtain ⟨h8, e_h8, hf⟩ := z_bd hf
  refine k_callVv (pc := 19) (as := [(0, v3), (0, v6)]) (rest := []) d_Pr_closeLevel_19 cw_Pr_closeLevel_104 rfl (Nat.le_of_ble_eq_true rfl) (z_ck_of e_n7) (t_Pt_joinBranches e_h8) ?_
  refine k_aload_n (pc := 22) rfl z_m0 d_Pr_closeLevel_22 ?_
  obtain ⟨v9, e_v9, hf⟩ := z_bd hf
  refine k_getR (pc := 23) d_Pr_closeLevel_23 fd_Pr_32 rfl e_v9 ?_
  refine k_aload_n (pc := 26) rfl z_m0 d_Pr_closeLevel_26 ?_
  obtain ⟨v10, e_v10, hf⟩ := z_bd hf
  refine k_getI (pc := 27) d_Pr_closeLevel_27 fd_Pr_62 rfl e_v10 ?_
  obtain ⟨v11, e_v11, hf⟩ := z_bd hf
  refine k_zald (pc := 30) d_Pr_closeLevel_30 e_v11 ?_
  rcases z_it hf with ⟨w16, hf⟩ | ⟨w16, hf⟩
  · refine k_if_ne_f (pc := 31) (tgt := 46) w16 d_Pr_closeLevel_31 rfl ?_
    refine k_aload_n (pc := 34) rfl z_m0 d_Pr_closeLevel_34 ?_
    obtain ⟨v12, e_v12, hf⟩ := z_bd hf
    refine k_getR (pc := 35) d_Pr_closeLevel_35 fd_Pr_28 rfl e_v12 ?_
    refine k_aload_n (pc := 38) rfl z_m0 d_Pr_closeLevel_38 ?_
    obtain ⟨v13, e_v13, hf⟩ := z_bd hf
    refine k_getI (pc := 39) d_Pr_closeLevel_39 fd_Pr_62 rfl e_v13 ?_
    obtain ⟨v14, e_v14, hf⟩ := z_bd hf
    refine k_zald (pc := 42) d_Pr_closeLevel_42 e_v14 ?_
    rcases z_it hf with ⟨w15, hf⟩ | ⟨w15, hf⟩
    · refine k_if_eq_t (pc := 43) (tgt := 50) w15 d_Pr_closeLevel_43 rfl ?_
      refine k_iconst (pc := 50) (zi_lit rfl) d_Pr_closeLevel_50 ?_
      cases hf
      exact k_zret (pc := 51) d_Pr_closeLevel_51 rfl (Or.inl rfl)
    · refine k_if_eq_f (pc := 43) (tgt := 50) w15 d_Pr_closeLevel_43 rfl ?_
      refine k_sub [] rfl ?_
      exact b_Pr_closeLevel_46 h8 _ hf
  · refine k_if_ne_t (pc := 31) (tgt := 46) w16 d_Pr_closeLevel_31 rfl ?_
    refine k_sub [] rfl ?_
    exact b_Pr_closeLevel_46 h8 _ hf
theorem t_Pr_closeLevel {a0 : Nat} {a1 : Nat} {h : zH} {r : Int × zH} (hf : f_Pr_closeLevel a0 a1 h = some r) : zMt m_Pr_closeLevel [(2, ((a0 : Nat) : Int)), (2, ((a1 : Nat) : Int))] h (some (0, r.1), r.2) := zMt.of (by decide) (Nat.le_of_ble_eq_true rfl) (b_Pr_closeLevel_0 a0 a1 h r hf)
theorem b_Pt_insertSplit_24 (s0 : Nat) (s1 : Int) (s2 : Int) (s3 : Int) (s4 : Int) (h : zH) (r : zH) (hf : f_Pt_insertSplit_24 s0 s1 s2 s3 s4 h = some r) : zK m_Pt_insertSplit 24 [] [(0, s4), (0, s3), (0, s2), (0, s1), (2, ((s0 : Nat) : Int))] h (none, r) := by
  unfold f_Pt_insertSplit_24 at hf
  obtain ⟨n1, e_n1, hf⟩ := z_bd hf
  obtain ⟨h2, e_h2, hf⟩ := z_bd hf
  refine k_callVv (pc := 24) (as := [(0, s1), (0, s2), (0, s3), (0, s4)]) (rest := []) d_Pt_insertSplit_24 cw_Pt_insertSplit_35 rfl (Nat.le_of_ble_eq_true rfl) (z_ck_of e_n1) (t_Pt_insert e_h2) ?_
  cases hf
  exact k_ret (pc := 27) d_Pt_insertSplit_27 rfl
theorem b_Pt_insertSplit_14 (a2 : Int) (a3 : Int) (a4 : Int) (s0 : Nat) (s1 : Int) (s2 : Int) (s3 : Int) (h : zH) (r : zH) (hf : f_Pt_insertSplit_14 a2 a3 a4 s0 s1 s2 s3 h = some r) : zK m_Pt_insertSplit 14 [(2, (0, a2)), (3, (0, a3)), (4, (0, a4))] [(0, s3), (0, s2), (0, s1), (2, ((s0 : Nat) : Int))] h (none, r) := by
  unfold f_Pt_insertSplit_14 at hf
  refine k_iload (pc := 14) z_m2 d_Pt_insertSplit_14 ?_
  rcases z_it hf with ⟨w3, hf⟩ | ⟨w3, hf⟩
  · refine k_if_eq_t (pc := 16) (tgt := 23) w3 d_Pt_insertSplit_16 rfl ?_
    refine k_iload_n (pc := 23) rfl z_m1 d_Pt_insertSplit_23 ?_
    refine k_sub [] rfl ?_
    exact b_Pt_insertSplit_24 s0 s1 s2 s3 a3 h _ hf
  · refine k_if_eq_f (pc := 16) (tgt := 23) w3 d_Pt_insertSplit_16 rfl ?_
    refine k_iload_n (pc := 19) rfl z_m0 d_Pt_insertSplit_19 ?_
    refine k_goto (pc := 20) (tgt := 24) d_Pt_insertSplit_20 rfl ?_
    refine k_sub [] rfl ?_
    exact b_Pt_insertSplit_24 s0 s1 s2 s3 a2 h _ hf
theorem b_Pt_insertSplit_0 (a0 : Nat) (a1 : Int) (a2 : Int) (a3 : Int) (a4 : Int) (h : zH) (r : zH) (hf : f_Pt_insertSplit a0 a1 a2 a3 a4 h = some r) : zK m_Pt_insertSplit 0 [(0, (2, ((a0 : Nat) : Int))), (1, (0, a1)), (2, (0, a2)), (3, (0, a3)), (4, (0, a4))] [] h (none, r) := by
  unfold f_Pt_insertSplit at hf
  refine k_aload_n (pc := 0) rfl z_m0 d_Pt_insertSplit_0 ?_
  refine k_iload_n (pc := 1) rfl z_m1 d_Pt_insertSplit_1 ?_
  refine k_bipush (pc := 2) (zi_lit rfl) (by decide) d_Pt_insertSplit_2 ?_
  refine k_iload (pc := 4) z_m4 d_Pt_insertSplit_4 ?_
  rcases z_it hf with ⟨w4, hf⟩ | ⟨w4, hf⟩
  · refine k_if_eq_t (pc := 6) (tgt := 13) w4 d_Pt_insertSplit_6 rfl ?_
    refine k_iload_n (pc := 13) rfl z_m2 d_Pt_insertSplit_13 ?_
    refine k_sub [2, 3, 4] rfl ?_
    exact b_Pt_insertSplit_14 a2 a3 a4 a0 a1 6 a2 h _ hf
  · refine k_if_eq_f (pc := 6) (tgt := 13) w4 d_Pt_insertSplit_6 rfl ?_
    refine k_iload_n (pc := 9) rfl z_m3 d_Pt_insertSplit_9 ?_
    refine k_goto (pc := 10) (tgt := 14) d_Pt_insertSplit_10 rfl ?_
    refine k_sub [2, 3, 4] rfl ?_
    exact b_Pt_insertSplit_14 a2 a3 a4 a0 a1 6 a3 h _ hf
theorem t_Pt_insertSplit {a0 : Nat} {a1 : Int} {a2 : Int} {a3 : Int} {a4 : Int} {h : zH} {r : zH} (hf : f_Pt_insertSplit a0 a1 a2 a3 a4 h = some r) : zMt m_Pt_insertSplit [(2, ((a0 : Nat) : Int)), (0, a1), (0, a2), (0, a3), (0, a4)] h (none, r) := zMt.of (by decide) (Nat.le_of_ble_eq_true rfl) (b_Pt_insertSplit_0 a0 a1 a2 a3 a4 h r hf)
