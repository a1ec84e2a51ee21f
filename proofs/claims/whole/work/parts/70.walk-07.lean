/-! The bytecode comes to what the functions answer; printed by wip/gen/gen.py -/
theorem b_Mo_match_568 (a0 : Nat) (a4 : Int) (h : zH) (r : zH) (hf : f_Mo_match_568 a0 a4 h = some r) : zK m_Mo_match 568 [(0, (2, ((a0 : Nat) : Int))), (4, (0, a4))] [] h (none, r) := by
  unfold f_Mo_match_568 at hf
  refine k_aload_n (pc := 568) rfl z_m0 d_Mo_match_568 ?_
  refine k_iload (pc := 569) z_m1 d_Mo_match_569 ?_
  obtain ⟨h1, e_h1, hf⟩ := z_bd hf
  refine k_putI (pc := 571) d_Mo_match_571 fd_Mo_191 (fun q => by cases q) rfl e_h1 ?_
  cases hf
  exact k_ret (pc := 574) d_Mo_match_574 rfl
theorem b_Mo_match_562 (c63 : Nat → Int → Int → Int → Int → Int → Int → zH → Option (zH)) (k63 : ∀ (x0 : Nat) (x1 : Int) (x2 : Int) (x4 : Int) (x5 : Int) (x6 : Int) (x7 : Int) (g : zH) (r : zH), c63 x0 x1 x2 x4 x5 x6 x7 g = some r → zK m_Mo_match 63 [(0, (2, ((x0 : Nat) : Int))), (1, (0, x1)), (2, (0, x2)), (4, (0, x4)), (5, (0, x5)), (6, (0, x6)), (7, (0, x7))] [] g (none, r)) (a0 : Nat) (a1 : Int) (a2 : Int) (a4 : Int) (a5 : Int) (a6 : Int) (a7 : Int) (h : zH) (r : zH) (hf : f_Mo_match_562 c63 a0 a1 a2 a4 a5 a6 a7 h = some r) : zK m_Mo_match 562 [(0, (2, ((a0 : Nat) : Int))), (1, (0, a1)), (2, (0, a2)), (4, (0, a4)), (5, (0, a5)), (6, (0, a6)), (7, (0, a7))] [] h (none, r) := by
  unfold f_Mo_match_562 at hf
  refine k_iinc (pc := 562) (L' := [(7, (0, zw (a7 + 1))), (0, (2, ((a0 : Nat) : Int))), (1, (0, a1)), (2, (0, a2)), (4, (0, a4)), (5, (0, a5)), (6, (0, a6))]) z_m6 d_Mo_match_562 (Nat.le_of_ble_eq_true rfl) rfl ?_
  refine k_goto (pc := 565) (tgt := 63) d_Mo_match_565 rfl ?_
  refine k_sub [1, 2, 3, 4, 5, 6, 0] rfl ?_
  exact k63 a0 a1 a2 a4 a5 a6 (zw (a7 + 1)) h _ hf
theorem b_Mo_match_326 (c63 : Nat → Int → Int → Int → Int → Int → Int → zH → Option (zH)) (k63 : ∀ (x0 : Nat) (x1 : Int) (x2 : Int) (x4 : Int) (x5 : Int) (x6 : Int) (x7 : Int) (g : zH) (r : zH), c63 x0 x1 x2 x4 x5 x6 x7 g = some r → zK m_Mo_match 63 [(0, (2, ((x0 : Nat) : Int))), (1, (0, x1)), (2, (0, x2)), (4, (0, x4)), (5, (0, x5)), (6, (0, x6)), (7, (0, x7))] [] g (none, r)) (a0 : Nat) (a1 : Int) (a2 : Int) (a4 : Int) (a5 : Int) (a7 : Int) (s0 : Int) (h : zH) (r : zH) (hf : f_Mo_match_326 c63 a0 a1 a2 a4 a5 a7 s0 h = some r) : zK m_Mo_match 326 [(0, (2, ((a0 : Nat) : Int))), (1, (0, a1)), (2, (0, a2)), (4, (0, a4)), (5, (0, a5)), (7, (0, a7))] [(0, s0)] h (none, r) := by
  unfold f_Mo_match_326 at hf
  refine k_istore (pc := 326) (L' := [(6, (0, s0)), (0, (2, ((a0 : Nat) : Int))), (1, (0, a1)), (2, (0, a2)), (4, (0, a4)), (5, (0, a5)), (7, (0, a7))]) d_Mo_match_326 (Nat.le_of_ble_eq_true rfl) rfl ?_
  refine k_goto (pc := 328) (tgt := 562) d_Mo_match_328 rfl ?_
  refine k_sub [1, 2, 3, 4, 5, 0, 6] rfl ?_
  exact b_Mo_match_562 c63 k63 a0 a1 a2 a4 a5 s0 a7 h _ hf
theorem b_Mo_match_314 (c63 : Nat → Int → Int → Int → Int → Int → Int → zH → Option (zH)) (k63 : ∀ (x0 : Nat) (x1 : Int) (x2 : Int) (x4 : Int) (x5 : Int) (x6 : Int) (x7 : Int) (g : zH) (r : zH), c63 x0 x1 x2 x4 x5 x6 x7 g = some r → zK m_Mo_match 63 [(0, (2, ((x0 : Nat) : Int))), (1, (0, x1)), (2, (0, x2)), (4, (0, x4)), (5, (0, x5)), (6, (0, x6)), (7, (0, x7))] [] g (none, r)) (a0 : Nat) (a1 : Int) (a2 : Int) (a4 : Int) (a7 : Int) (a9 : Int) (s0 : Int) (h : zH) (r : zH) (hf : f_Mo_match_314 c63 a0 a1 a2 a4 a7 a9 s0 h = some r) : zK m_Mo_match 314 [(0, (2, ((a0 : Nat) : Int))), (1, (0, a1)), (2, (0, a2)), (4, (0, a4)), (7, (0, a7)), (9, (0, a9))] [(0, s0)] h (none, r) := by
  unfold f_Mo_match_314 at hf
  refine k_istore (pc := 314) (L' := [(5, (0, s0)), (0, (2, ((a0 : Nat) : Int))), (1, (0, a1)), (2, (0, a2)), (4, (0, a4)), (7, (0, a7)), (9, (0, a9))]) d_Mo_match_314 (Nat.le_of_ble_eq_true rfl) rfl ?_
  refine k_iload (pc := 316) z_m6 d_Mo_match_316 ?_
  rcases z_it hf with ⟨w2, hf⟩ | ⟨w2, hf⟩
  · refine k_if_eq_t (pc := 318) (tgt := 325) w2 d_Mo_match_318 rfl ?_
    refine k_iconst (pc := 325) (zi_lit rfl) d_Mo_match_325 ?_
    refine k_sub [1, 2, 3, 4, 0, 5] rfl ?_
    exact b_Mo_match_326 c63 k63 a0 a1 a2 a4 s0 a7 1 h _ hf
  · refine k_if_eq_f (pc := 318) (tgt := 325) w2 d_Mo_match_318 rfl ?_
    refine k_iconst (pc := 321) (zi_lit rfl) d_Mo_match_321 ?_
    refine k_goto (pc := 322) (tgt := 326) d_Mo_match_322 rfl ?_
    refine k_sub [1, 2, 3, 4, 0, 5] rfl ?_
    exact b_Mo_match_326 c63 k63 a0 a1 a2 a4 s0 a7 0 h _ hf
theorem b_Mo_match_292 (c63 : Nat → Int → Int → Int → Int → Int → Int → zH → Option (zH)) (k63 : ∀ (x0 : Nat) (x1 : Int) (x2 : Int) (x4 : Int) (x5 : Int) (x6 : Int) (x7 : Int) (g : zH) (r : zH), c63 x0 x1 x2 x4 x5 x6 x7 g = some r → zK m_Mo_match 63 [(0, (2, ((x0 : Nat) : Int))), (1, (0, x1)), (2, (0, x2)), (4, (0, x4)), (5, (0, x5)), (6, (0, x6)), (7, (0, x7))] [] g (none, r)) (a0 : Nat) (a1 : Int) (a2 : Int) (a4 : Int) (a5 : Int) (a7 : Int) (a8 : Int) (a9 : Int) (s0 : Nat) (s1 : Int) (s2 : Int) (h : zH) (r : zH) (hf : f_Mo_match_292 c63 a0 a1 a2 a4 a5 a7 a8 a9 s0 s1 s2 h = some r) : zK m_Mo_match 292 [(0, (2, ((a0 : Nat) : Int))), (1, (0, a1)), (2, (0, a2)), (4, (0, a4)), (5, (0, a5)), (7, (0, a7)), (8, (0, a8)), (9, (0, a9))] [(0, s2), (0, s1), (2, ((s0 : Nat) : Int))] h (none, r) := by
  unfold f_Mo_match_292 at hf
  refine k_iload (pc := 292) z_m3 d_Mo_match_292 ?_
  obtain ⟨n3, e_n3, hf⟩ := z_bd hf
  obtain ⟨h4, e_h4, hf⟩ := z_bd hf
  refine k_callVv (pc := 294) (as := [(0, s1), (0, s2), (0, a4)]) (rest := []) d_Mo_match_294 cw_Mo_match_181 rfl (Nat.le_of_ble_eq_true rfl) (z_ck_of e_n3) (t_Mo_push e_h4) ?_
  refine k_iload (pc := 297) z_m7 d_Mo_match_297 ?_
  rcases z_it hf with ⟨w7, hf⟩ | ⟨w7, hf⟩
  · refine k_if_eq_t (pc := 299) (tgt := 312) w7 d_Mo_match_299 rfl ?_
    refine k_iload (pc := 312) z_m4 d_Mo_match_312 ?_
    refine k_sub [0, 1, 2, 3, 5, 7] rfl ?_
    exact b_Mo_match_314 c63 k63 a0 a1 a2 a4 a7 a9 a5 h4 _ hf
  · refine k_if_eq_f (pc := 299) (tgt := 312) w7 d_Mo_match_299 rfl ?_
    refine k_aload_n (pc := 302) rfl z_m0 d_Mo_match_302 ?_
    obtain ⟨v5, e_v5, hf⟩ := z_bd hf
    refine k_getR (pc := 303) d_Mo_match_303 fd_Mo_38 rfl e_v5 ?_
    refine k_iload (pc := 306) z_m6 d_Mo_match_306 ?_
    obtain ⟨v6, e_v6, hf⟩ := z_bd hf
    refine k_iald (pc := 308) d_Mo_match_308 e_v6 ?_
    refine k_goto (pc := 309) (tgt := 314) d_Mo_match_309 rfl ?_
    refine k_sub [0, 1, 2, 3, 5, 7] rfl ?_
    exact b_Mo_match_314 c63 k63 a0 a1 a2 a4 a7 a9 v6 h4 _ hf
theorem b_Mo_match_275 (c63 : Nat → Int → Int → Int → Int → Int → Int → zH → Option (zH)) (k63 : ∀ (x0 : Nat) (x1 : Int) (x2 : Int) (x4 : Int) (x5 : Int) (x6 : Int) (x7 : Int) (g : zH) (r : zH), c63 x0 x1 x2 x4 x5 x6 x7 g = some r → zK m_Mo_match 63 [(0, (2, ((x0 : Nat) : Int))), (1, (0, x1)), (2, (0, x2)), (4, (0, x4)), (5, (0, x5)), (6, (0, x6)), (7, (0, x7))] [] g (none, r)) (a0 : Nat) (a1 : Int) (a2 : Int) (a4 : Int) (a5 : Int) (a7 : Int) (a8 : Int) (a9 : Int) (s0 : Nat) (s1 : Int) (h : zH) (r : zH) (hf : f_Mo_match_275 c63 a0 a1 a2 a4 a5 a7 a8 a9 s0 s1 h = some r) : zK m_Mo_match 275 [(0, (2, ((a0 : Nat) : Int))), (1, (0, a1)), (2, (0, a2)), (4, (0, a4)), (5, (0, a5)), (7, (0, a7)), (8, (0, a8)), (9, (0, a9))] [(0, s1), (2, ((s0 : Nat) : Int))] h (none, r) := by
  unfold f_Mo_match_275 at hf
  refine k_iload (pc := 275) z_m7 d_Mo_match_275 ?_
  rcases z_it hf with ⟨w10, hf⟩ | ⟨w10, hf⟩
  · refine k_if_eq_t (pc := 277) (tgt := 285) w10 d_Mo_match_277 rfl ?_
    refine k_aload_n (pc := 285) rfl z_m0 d_Mo_match_285 ?_
    obtain ⟨v8, e_v8, hf⟩ := z_bd hf
    refine k_getR (pc := 286) d_Mo_match_286 fd_Mo_38 rfl e_v8 ?_
    refine k_iload (pc := 289) z_m6 d_Mo_match_289 ?_
    obtain ⟨v9, e_v9, hf⟩ := z_bd hf
    refine k_iald (pc := 291) d_Mo_match_291 e_v9 ?_
    exact b_Mo_match_292 c63 k63 a0 a1 a2 a4 a5 a7 a8 a9 s0 s1 v9 h _ hf
  · refine k_if_eq_f (pc := 277) (tgt := 285) w10 d_Mo_match_277 rfl ?_
    refine k_iload (pc := 280) z_m4 d_Mo_match_280 ?_
    refine k_goto (pc := 282) (tgt := 292) d_Mo_match_282 rfl ?_
    exact b_Mo_match_292 c63 k63 a0 a1 a2 a4 a5 a7 a8 a9 s0 s1 a5 h _ hf
theorem b_Mo_match_262 (c63 : Nat → Int → Int → Int → Int → Int → Int → zH → Option (zH)) (k63 : ∀ (x0 : Nat) (x1 : Int) (x2 : Int) (x4 : Int) (x5 : Int) (x6 : Int) (x7 : Int) (g : zH) (r : zH), c63 x0 x1 x2 x4 x5 x6 x7 g = some r → zK m_Mo_match 63 [(0, (2, ((x0 : Nat) : Int))), (1, (0, x1)), (2, (0, x2)), (4, (0, x4)), (5, (0, x5)), (6, (0, x6)), (7, (0, x7))] [] g (none, r)) (a0 : Nat) (a1 : Int) (a2 : Int) (a4 : Int) (a5 : Int) (a7 : Int) (a8 : Int) (s0 : Int) (h : zH) (r : zH) (hf : f_Mo_match_262 c63 a0 a1 a2 a4 a5 a7 a8 s0 h = some r) : zK m_Mo_match 262 [(0, (2, ((a0 : Nat) : Int))), (1, (0, a1)), (2, (0, a2)), (4, (0, a4)), (5, (0, a5)), (7, (0, a7)), (8, (0, a8))] [(0, s0)] h (none, r) := by
  unfold f_Mo_match_262 at hf
  refine k_istore (pc := 262) (L' := [(9, (0, s0)), (0, (2, ((a0 : Nat) : Int))), (1, (0, a1)), (2, (0, a2)), (4, (0, a4)), (5, (0, a5)), (7, (0, a7)), (8, (0, a8))]) d_Mo_match_262 (Nat.le_of_ble_eq_true rfl) rfl ?_
  refine k_aload_n (pc := 264) rfl z_m1 d_Mo_match_264 ?_
  refine k_iload (pc := 265) z_m0 d_Mo_match_265 ?_
  rcases z_it hf with ⟨w11, hf⟩ | ⟨w11, hf⟩
  · refine k_if_eq_t (pc := 267) (tgt := 274) w11 d_Mo_match_267 rfl ?_
    refine k_iconst (pc := 274) (zi_lit rfl) d_Mo_match_274 ?_
    refine k_sub [1, 2, 3, 4, 5, 6, 7, 0] rfl ?_
    exact b_Mo_match_275 c63 k63 a0 a1 a2 a4 a5 a7 a8 s0 a0 0 h _ hf
  · refine k_if_eq_f (pc := 267) (tgt := 274) w11 d_Mo_match_267 rfl ?_
    refine k_iconst (pc := 270) (zi_lit rfl) d_Mo_match_270 ?_
    refine k_goto (pc := 271) (tgt := 275) d_Mo_match_271 rfl ?_
    refine k_sub [1, 2, 3, 4, 5, 6, 7, 0] rfl ?_
    exact b_Mo_match_275 c63 k63 a0 a1 a2 a4 a5 a7 a8 s0 a0 1 h _ hf
theorem b_Mo_match_246 (c63 : Nat → Int → Int → Int → Int → Int → Int → zH → Option (zH)) (k63 : ∀ (x0 : Nat) (x1 : Int) (x2 : Int) (x4 : Int) (x5 : Int) (x6 : Int) (x7 : Int) (g : zH) (r : zH), c63 x0 x1 x2 x4 x5 x6 x7 g = some r → zK m_Mo_match 63 [(0, (2, ((x0 : Nat) : Int))), (1, (0, x1)), (2, (0, x2)), (4, (0, x4)), (5, (0, x5)), (6, (0, x6)), (7, (0, x7))] [] g (none, r)) (a0 : Nat) (a1 : Int) (a2 : Int) (a4 : Int) (a5 : Int) (a7 : Int) (a8 : Int) (h : zH) (r : zH) (hf : f_Mo_match_246 c63 a0 a1 a2 a4 a5 a7 a8 h = some r) : zK m_Mo_match 246 [(0, (2, ((a0 : Nat) : Int))), (1, (0, a1)), (2, (0, a2)), (4, (0, a4)), (5, (0, a5)), (7, (0, a7)), (8, (0, a8))] [] h (none, r) := by
  unfold f_Mo_match_246 at hf
  refine k_aload_n (pc := 246) rfl z_m0 d_Mo_match_246 ?_
  obtain ⟨v12, e_v12, hf⟩ := z_bd hf
  refine k_getR (pc := 247) d_Mo_match_247 fd_Mo_32 rfl e_v12 ?_
  refine k_iload (pc := 250) z_m6 d_Mo_match_250 ?_
  obtain ⟨v13, e_v13, hf⟩ := z_bd hf
  refine k_iald (pc := 252) d_Mo_match_252 e_v13 ?_
  refine k_iconst (pc := 253) (zi_lit rfl) d_Mo_match_253 ?_
  rcases z_it hf with ⟨w14, hf⟩ | ⟨w14, hf⟩
  · refine k_ic_le_t (pc := 254) (tgt := 261) w14 d_Mo_match_254 rfl ?_
    refine k_iconst (pc := 261) (zi_lit rfl) d_Mo_match_261 ?_
    exact b_Mo_match_262 c63 k63 a0 a1 a2 a4 a5 a7 a8 0 h _ hf
  · refine k_ic_le_f (pc := 254) (tgt := 261) w14 d_Mo_match_254 rfl ?_
    refine k_iconst (pc := 257) (zi_lit rfl) d_Mo_match_257 ?_
    refine k_goto (pc := 258) (tgt := 262) d_Mo_match_258 rfl ?_
    exact b_Mo_match_262 c63 k63 a0 a1 a2 a4 a5 a7 a8 1 h _ hf
theorem b_Mo_match_401 (c63 : Nat → Int → Int → Int → Int → Int → Int → zH → Option (zH)) (k63 : ∀ (x0 : Nat) (x1 : Int) (x2 : Int) (x4 : Int) (x5 : Int) (x6 : Int) (x7 : Int) (g : zH) (r : zH), c63 x0 x1 x2 x4 x5 x6 x7 g = some r → zK m_Mo_match 63 [(0, (2, ((x0 : Nat) : Int))), (1, (0, x1)), (2, (0, x2)), (4, (0, x4)), (5, (0, x5)), (6, (0, x6)), (7, (0, x7))] [] g (none, r)) (a0 : Nat) (a1 : Int) (a2 : Int) (a4 : Int) (a5 : Int) (a7 : Int) (h : zH) (r : zH) (hf : f_Mo_match_401 c63 a0 a1 a2 a4 a5 a7 h = some r) : zK m_Mo_match 401 [(0, (2, ((a0 : Nat) : Int))), (1, (0, a1)), (2, (0, a2)), (4, (0, a4)), (5, (0, a5)), (7, (0, a7))] [] h (none, r) := by
  unfold f_Mo_match_401 at hf
  refine k_iinc (pc := 401) (L' := [(5, (0, zw (a5 + 1))), (0, (2, ((a0 : Nat) : Int))), (1, (0, a1)), (2, (0, a2)), (4, (0, a4)), (7, (0, a7))]) z_m4 d_Mo_match_401 (Nat.le_of_ble_eq_true rfl) rfl ?_
  refine k_iconst (pc := 404) (zi_lit rfl) d_Mo_match_404 ?_
  refine k_istore (pc := 405) (L' := [(6, (0, 0)), (5, (0, zw (a5 + 1))), (0, (2, ((a0 : Nat) : Int))), (1, (0, a1)), (2, (0, a2)), (4, (0, a4)), (7, (0, a7))]) d_Mo_match_405 (Nat.le_of_ble_eq_true rfl) rfl ?_
  refine k_goto (pc := 407) (tgt := 562) d_Mo_match_407 rfl ?_
  refine k_sub [2, 3, 4, 5, 1, 0, 6] rfl ?_
  exact b_Mo_match_562 c63 k63 a0 a1 a2 a4 (zw (a5 + 1)) 0 a7 h _ hf
theorem b_Mo_match_377 (c63 : Nat → Int → Int → Int → Int → Int → Int → zH → Option (zH)) (k63 : ∀ (x0 : Nat) (x1 : Int) (x2 : Int) (x4 : Int) (x5 : Int) (x6 : Int) (x7 : Int) (g : zH) (r : zH), c63 x0 x1 x2 x4 x5 x6 x7 g = some r → zK m_Mo_match 63 [(0, (2, ((x0 : Nat) : Int))), (1, (0, x1)), (2, (0, x2)), (4, (0, x4)), (5, (0, x5)), (6, (0, x6)), (7, (0, x7))] [] g (none, r)) (a0 : Nat) (a1 : Int) (a2 : Int) (a4 : Int) (a5 : Int) (a7 : Int) (a8 : Int) (h : zH) (r : zH) (hf : f_Mo_match_377 c63 a0 a1 a2 a4 a5 a7 a8 h = some r) : zK m_Mo_match 377 [(0, (2, ((a0 : Nat) : Int))), (1, (0, a1)), (2, (0, a2)), (4, (0, a4)), (5, (0, a5)), (7, (0, a7)), (8, (0, a8))] [] h (none, r) := by
  unfold f_Mo_match_377 at hf
  refine k_aload_n (pc := 377) rfl z_m0 d_Mo_match_377 ?_
  obtain ⟨v15, e_v15, hf⟩ := z_bd hf
  refine k_getR (pc := 378) d_Mo_match_378 fd_Mo_47 rfl e_v15 ?_
  refine k_iload (pc := 381) z_m6 d_Mo_match_381 ?_
  obtain ⟨v16, e_v16, hf⟩ := z_bd hf
  refine k_iald (pc := 383) d_Mo_match_383 e_v16 ?_
  rcases z_it hf with ⟨w21, hf⟩ | ⟨w21, hf⟩
  · refine k_if_lt_t (pc := 384) (tgt := 401) w21 d_Mo_match_384 rfl ?_
    refine k_sub [0, 1, 2, 3, 4, 5] rfl ?_
    exact b_Mo_match_401 c63 k63 a0 a1 a2 a4 a5 a7 h _ hf
  · refine k_if_lt_f (pc := 384) (tgt := 401) w21 d_Mo_match_384 rfl ?_
    refine k_aload_n (pc := 387) rfl z_m0 d_Mo_match_387 ?_
    refine k_iconst (pc := 388) (zi_lit rfl) d_Mo_match_388 ?_
    refine k_aload_n (pc := 389) rfl z_m0 d_Mo_match_389 ?_
    obtain ⟨v17, e_v17, hf⟩ := z_bd hf
    refine k_getR (pc := 390) d_Mo_match_390 fd_Mo_47 rfl e_v17 ?_
    refine k_iload (pc := 393) z_m6 d_Mo_match_393 ?_
    obtain ⟨v18, e_v18, hf⟩ := z_bd hf
    refine k_iald (pc := 395) d_Mo_match_395 e_v18 ?_
    refine k_iload (pc := 396) z_m3 d_Mo_match_396 ?_
    obtain ⟨n19, e_n19, hf⟩ := z_bd hf
    obtain ⟨h20, e_h20, hf⟩ := z_bd hf
    refine k_callVv (pc := 398) (as := [(0, 3), (0, v18), (0, a4)]) (rest := []) d_Mo_match_398 cw_Mo_match_181 rfl (Nat.le_of_ble_eq_true rfl) (z_ck_of e_n19) (t_Mo_push e_h20) ?_
    refine k_sub [0, 1, 2, 3, 4, 5] rfl ?_
    exact b_Mo_match_401 c63 k63 a0 a1 a2 a4 a5 a7 h20 _ hf
theorem b_Mo_match_355 (c63 : Nat → Int → Int → Int → Int → Int → Int → zH → Option (zH)) (k63 : ∀ (x0 : Nat) (x1 : Int) (x2 : Int) (x4 : Int) (x5 : Int) (x6 : Int) (x7 : Int) (g : zH) (r : zH), c63 x0 x1 x2 x4 x5 x6 x7 g = some r → zK m_Mo_match 63 [(0, (2, ((x0 : Nat) : Int))), (1, (0, x1)), (2, (0, x2)), (4, (0, x4)), (5, (0, x5)), (6, (0, x6)), (7, (0, x7))] [] g (none, r)) (a0 : Nat) (a1 : Int) (a2 : Int) (a4 : Int) (a5 : Int) (a6 : Int) (a7 : Int) (a8 : Int) (h : zH) (r : zH) (hf : f_Mo_match_355 c63 a0 a1 a2 a4 a5 a6 a7 a8 h = some r) : zK m_Mo_match 355 [(0, (2, ((a0 : Nat) : Int))), (1, (0, a1)), (2, (0, a2)), (4, (0, a4)), (5, (0, a5)), (6, (0, a6)), (7, (0, a7)), (8, (0, a8))] [] h (none, r) := by
  unfold f_Mo_match_355 at hf
  refine k_iload (pc := 355) z_m5 d_Mo_match_355 ?_
  refine k_iconst (pc := 357) (zi_lit rfl) d_Mo_match_357 ?_
  rcases z_it hf with ⟨w26, hf⟩ | ⟨w26, hf⟩
  · refine k_ic_ne_f (pc := 358) (tgt := 377) w26 d_Mo_match_358 rfl ?_
    refine k_aload_n (pc := 361) rfl z_m0 d_Mo_match_361 ?_
    obtain ⟨v22, e_v22, hf⟩ := z_bd hf
    refine k_getR (pc := 362) d_Mo_match_362 fd_Mo_65 rfl e_v22 ?_
    refine k_iconst (pc := 365) (zi_lit rfl) d_Mo_match_365 ?_
    refine k_aload_n (pc := 366) rfl z_m0 d_Mo_match_366 ?_
    obtain ⟨v23, e_v23, hf⟩ := z_bd hf
    refine k_getR (pc := 367) d_Mo_match_367 fd_Mo_41 rfl e_v23 ?_
    refine k_iload (pc := 370) z_m7 d_Mo_match_370 ?_
    obtain ⟨v24, e_v24, hf⟩ := z_bd hf
    refine k_iald (pc := 372) d_Mo_match_372 e_v24 ?_
    refine k_imul (pc := 373) d_Mo_match_373 ?_
    refine k_iload (pc := 374) z_m3 d_Mo_match_374 ?_
    obtain ⟨h25, e_h25, hf⟩ := z_bd hf
    refine k_iast (pc := 376) d_Mo_match_376 e_h25 ?_
    refine k_sub [0, 1, 2, 3, 4, 6, 7] rfl ?_
    exact b_Mo_match_377 c63 k63 a0 a1 a2 a4 a5 a7 a8 h25 _ hf
  · refine k_ic_ne_t (pc := 358) (tgt := 377) w26 d_Mo_match_358 rfl ?_
    refine k_sub [0, 1, 2, 3, 4, 6, 7] rfl ?_
    exact b_Mo_match_377 c63 k63 a0 a1 a2 a4 a5 a7 a8 h _ hf
theorem b_Mo_match_452 (c63 : Nat → Int → Int → Int → Int → Int → Int → zH → Option (zH)) (k63 : ∀ (x0 : Nat) (x1 : Int) (x2 : Int) (x4 : Int) (x5 : Int) (x6 : Int) (x7 : Int) (g : zH) (r : zH), c63 x0 x1 x2 x4 x5 x6 x7 g = some r → zK m_Mo_match 63 [(0, (2, ((x0 : Nat) : Int))), (1, (0, x1)), (2, (0, x2)), (4, (0, x4)), (5, (0, x5)), (6, (0, x6)), (7, (0, x7))] [] g (none, r)) (a0 : Nat) (a1 : Int) (a2 : Int) (a4 : Int) (a5 : Int) (a7 : Int) (s0 : Int) (h : zH) (r : zH) (hf : f_Mo_match_452 c63 a0 a1 a2 a4 a5 a7 s0 h = some r) : zK m_Mo_match 452 [(0, (2, ((a0 : Nat) : Int))), (1, (0, a1)), (2, (0, a2)), (4, (0, a4)), (5, (0, a5)), (7, (0, a7))] [(0, s0)] h (none, r) := by
  unfold f_Mo_match_452 at hf
  refine k_istore (pc := 452) (L' := [(6, (0, s0)), (0, (2, ((a0 : Nat) : Int))), (1, (0, a1)), (2, (0, a2)), (4, (0, a4)), (5, (0, a5)), (7, (0, a7))]) d_Mo_match_452 (Nat.le_of_ble_eq_true rfl) rfl ?_
  refine k_goto (pc := 454) (tgt := 562) d_Mo_match_454 rfl ?_
  refine k_sub [1, 2, 3, 4, 5, 0, 6] rfl ?_
  exact b_Mo_match_562 c63 k63 a0 a1 a2 a4 a5 s0 a7 h _ hf
theorem b_Mo_match_440 (c63 : Nat → Int → Int → Int → Int → Int → Int → zH → Option (zH)) (k63 : ∀ (x0 : Nat) (x1 : Int) (x2 : Int) (x4 : Int) (x5 : Int) (x6 : Int) (x7 : Int) (g : zH) (r : zH), c63 x0 x1 x2 x4 x5 x6 x7 g = some r → zK m_Mo_match 63 [(0, (2, ((x0 : Nat) : Int))), (1, (0, x1)), (2, (0, x2)), (4, (0, x4)), (5, (0, x5)), (6, (0, x6)), (7, (0, x7))] [] g (none, r)) (a0 : Nat) (a1 : Int) (a2 : Int) (a5 : Int) (a7 : Int) (a9 : Int) (s0 : Int) (h : zH) (r : zH) (hf : f_Mo_match_440 c63 a0 a1 a2 a5 a7 a9 s0 h = some r) : zK m_Mo_match 440 [(0, (2, ((a0 : Nat) : Int))), (1, (0, a1)), (2, (0, a2)), (5, (0, a5)), (7, (0, a7)), (9, (0, a9))] [(0, s0)] h (none, r) := by
  unfold f_Mo_match_440 at hf
  refine k_istore (pc := 440) (L' := [(4, (0, s0)), (0, (2, ((a0 : Nat) : Int))), (1, (0, a1)), (2, (0, a2)), (5, (0, a5)), (7, (0, a7)), (9, (0, a9))]) d_Mo_match_440 (Nat.le_of_ble_eq_true rfl) rfl ?_
  refine k_iload (pc := 442) z_m6 d_Mo_match_442 ?_
  rcases z_it hf with ⟨w27, hf⟩ | ⟨w27, hf⟩
  · refine k_if_ge_t (pc := 444) (tgt := 451) w27 d_Mo_match_444 rfl ?_
    refine k_iconst (pc := 451) (zi_lit rfl) d_Mo_match_451 ?_
    refine k_sub [1, 2, 3, 0, 4, 5] rfl ?_
    exact b_Mo_match_452 c63 k63 a0 a1 a2 s0 a5 a7 2 h _ hf
  · refine k_if_ge_f (pc := 444) (tgt := 451) w27 d_Mo_match_444 rfl ?_
    refine k_iconst (pc := 447) (zi_lit rfl) d_Mo_match_447 ?_
    refine k_goto (pc := 448) (tgt := 452) d_Mo_match_448 rfl ?_
    refine k_sub [1, 2, 3, 0, 4, 5] rfl ?_
    exact b_Mo_match_452 c63 k63 a0 a1 a2 s0 a5 a7 4 h _ hf
theorem b_Mo_match_471 (a0 : Nat) (h : zH) (r : zH) (hf : f_Mo_match_471 a0 h = some r) : zK m_Mo_match 471 [(0, (2, ((a0 : Nat) : Int)))] [] h (none, r) := by
  unfold f_Mo_match_471 at hf
  refine k_aload_n (pc := 471) rfl z_m0 d_Mo_match_471 ?_
  refine k_iconst (pc := 472) (zi_lit rfl) d_Mo_match_472 ?_
  obtain ⟨h28, e_h28, hf⟩ := z_bd hf
  refine k_putI (pc := 473) d_Mo_match_473 fd_Mo_191 (fun q => by cases q) rfl e_h28 ?_
  cases hf
  exact k_ret (pc := 476) d_Mo_match_476 rfl
theorem b_Mo_match_530 (c63 : Nat → Int → Int → Int → Int → Int → Int → zH → Option (zH)) (k63 : ∀ (x0 : Nat) (x1 : Int) (x2 : Int) (x4 : Int) (x5 : Int) (x6 : Int) (x7 : Int) (g : zH) (r : zH), c63 x0 x1 x2 x4 x5 x6 x7 g = some r → zK m_Mo_match 63 [(0, (2, ((x0 : Nat) : Int))), (1, (0, x1)), (2, (0, x2)), (4, (0, x4)), (5, (0, x5)), (6, (0, x6)), (7, (0, x7))] [] g (none, r)) : ∀ (n : Nat) (a0 : Nat) (a1 : Int) (a2 : Int) (a4 : Int) (a5 : Int) (a6 : Int) (a7 : Int) (a9 : Int) (a10 : Int) (h : zH) (r : zH), f_Mo_match_530 c63 n a0 a1 a2 a4 a5 a6 a7 a9 a10 h = some r → zK m_Mo_match 530 [(0, (2, ((a0 : Nat) : Int))), (1, (0, a1)), (2, (0, a2)), (4, (0, a4)), (5, (0, a5)), (6, (0, a6)), (7, (0, a7)), (9, (0, a9)), (10, (0, a10))] [] h (none, r) := by
  intro n
  induction n with
  | zero =>
    intro a0 a1 a2 a4 a5 a6 a7 a9 a10 h r hf
    cases hf
  | succ n ih =>
    intro a0 a1 a2 a4 a5 a6 a7 a9 a10 h r hf
    unfold f_Mo_match_530 at hf
    refine k_iload (pc := 530) z_m8 d_Mo_match_530 ?_
    refine k_bipush (pc := 532) (zi_lit rfl) (by decide) d_Mo_match_532 ?_
    rcases z_it hf with ⟨w33, hf⟩ | ⟨w33, hf⟩
    · refine k_ic_ge_t (pc := 534) (tgt := 562) w33 d_Mo_match_534 rfl ?_
      refine k_sub [0, 1, 2, 3, 4, 5, 6] rfl ?_
      exact b_Mo_match_562 c63 k63 a0 a1 a2 a4 a5 a6 a7 h _ hf
    · refine k_ic_ge_f (pc := 534) (tgt := 562) w33 d_Mo_match_534 rfl ?_
      refine k_aload_n (pc := 537) rfl z_m0 d_Mo_match_537 ?_
      obtain ⟨v29, e_v29, hf⟩ := z_bd hf
      refine k_getR (pc := 538) d_Mo_match_538 fd_Mo_65 rfl e_v29 ?_
      refine k_iload (pc := 541) z_m8 d_Mo_match_541 ?_
      refine k_aload_n (pc := 543) rfl z_m0 d_Mo_match_543 ?_
      obtain ⟨v30, e_v30, hf⟩ := z_bd hf
      refine k_getR (pc := 544) d_Mo_match_544 fd_Mo_68 rfl e_v30 ?_
      refine k_iload (pc := 547) z_m7 d_Mo_match_547 ?_
      refine k_iconst (pc := 549) (zi_lit rfl) d_Mo_match_549 ?_
      refine k_iadd (pc := 550) d_Mo_match_550 ?_
      refine k_iload (pc := 551) z_m8 d_Mo_match_551 ?_
      refine k_iadd (pc := 553) d_Mo_match_553 ?_
      obtain ⟨v31, e_v31, hf⟩ := z_bd hf
      refine k_iald (pc := 554) d_Mo_match_554 e_v31 ?_
      obtain ⟨h32, e_h32, hf⟩ := z_bd hf
      refine k_iast (pc := 555) d_Mo_match_555 e_h32 ?_
      refine k_iinc (pc := 556) (L' := [(10, (0, zw (a10 + 1))), (0, (2, ((a0 : Nat) : Int))), (1, (0, a1)), (2, (0, a2)), (4, (0, a4)), (5, (0, a5)), (6, (0, a6)), (7, (0, a7)), (9, (0, a9))]) z_m8 d_Mo_match_556 (Nat.le_of_ble_eq_true rfl) rfl ?_
      refine k_goto (pc := 559) (tgt := 530) d_Mo_match_559 rfl ?_
      refine k_sub [1, 2, 3, 4, 5, 6, 7, 8, 0] rfl ?_
      exact ih a0 a1 a2 a4 a5 a6 a7 a9 (zw (a10 + 1)) h32 _ hf
theorem b_Mo_match_349 (c63 : Nat → Int → Int → Int → Int → Int → Int → zH → Option (zH)) (k63 : ∀ (x0 : Nat) (x1 : Int) (x2 : Int) (x4 : Int) (x5 : Int) (x6 : Int) (x7 : Int) (g : zH) (r : zH), c63 x0 x1 x2 x4 x5 x6 x7 g = some r → zK m_Mo_match 63 [(0, (2, ((x0 : Nat) : Int))), (1, (0, x1)), (2, (0, x2)), (4, (0, x4)), (5, (0, x5)), (6, (0, x6)), (7, (0, x7))] [] g (none, r)) (a0 : Nat) (a1 : Int) (a2 : Int) (a4 : Int) (a5 : Int) (a6 : Int) (a7 : Int) (a8 : Int) (h : zH) (r : zH) (hf : f_Mo_match_349 c63 a0 a1 a2 a4 a5 a6 a7 a8 h = some r) : zK m_Mo_match 349 [(0, (2, ((a0 : Nat) : Int))), (1, (0, a1)), (2, (0, a2)), (4, (0, a4)), (5, (0, a5)), (6, (0, a6)), (7, (0, a7)), (8, (0, a8))] [] h (none, r) := by
  unfold f_Mo_match_349 at hf
  refine k_iload (pc := 349) z_m5 d_Mo_match_349 ?_
  refine k_iconst (pc := 351) (zi_lit rfl) d_Mo_match_351 ?_
  rcases z_it hf with ⟨w51, hf⟩ | ⟨w51, hf⟩
  · refine k_ic_ne_f (pc := 352) (tgt := 410) w51 d_Mo_match_352 rfl ?_
    exact b_Mo_match_355 c63 k63 a0 a1 a2 a4 a5 a6 a7 a8 h _ hf
  · refine k_ic_ne_t (pc := 352) (tgt := 410) w51 d_Mo_match_352 rfl ?_
    refine k_iload (pc := 410) z_m5 d_Mo_match_410 ?_
    refine k_iconst (pc := 412) (zi_lit rfl) d_Mo_match_412 ?_
    rcases z_it hf with ⟨w50, hf⟩ | ⟨w50, hf⟩
    · refine k_ic_ne_f (pc := 413) (tgt := 457) w50 d_Mo_match_413 rfl ?_
      refine k_aload_n (pc := 416) rfl z_m0 d_Mo_match_416 ?_
      refine k_iload_n (pc := 417) rfl z_m1 d_Mo_match_417 ?_
      refine k_iload (pc := 418) z_m4 d_Mo_match_418 ?_
      refine k_iload_n (pc := 420) rfl z_m2 d_Mo_match_420 ?_
      refine k_iload (pc := 421) z_m3 d_Mo_match_421 ?_
      obtain ⟨n47, e_n47, hf⟩ := z_bd hf
      obtain ⟨q48, e_q48, hf⟩ := z_bd hf
      refine k_callVi (pc := 423) (as := [(0, a1), (0, a5), (0, a2), (0, a4)]) (rest := []) d_Mo_match_423 cw_Mo_match_187 rfl (Nat.le_of_ble_eq_true rfl) (z_ck_of e_n47) (t_Mo_fits e_q48) ?_
      refine k_istore (pc := 426) (L' := [(9, (0, q48.1)), (0, (2, ((a0 : Nat) : Int))), (1, (0, a1)), (2, (0, a2)), (4, (0, a4)), (5, (0, a5)), (6, (0, a6)), (7, (0, a7)), (8, (0, a8))]) d_Mo_match_426 (Nat.le_of_ble_eq_true rfl) rfl ?_
      refine k_iload (pc := 428) z_m0 d_Mo_match_428 ?_
      rcases z_it hf with ⟨w49, hf⟩ | ⟨w49, hf⟩
      · refine k_if_ge_t (pc := 430) (tgt := 438) w49 d_Mo_match_430 rfl ?_
        refine k_iload (pc := 438) z_m0 d_Mo_match_438 ?_
        refine k_sub [1, 2, 3, 5, 7, 0] rfl ?_
        exact b_Mo_match_440 c63 k63 a0 a1 a2 a5 a7 q48.1 q48.1 q48.2 _ hf
      · refine k_if_ge_f (pc := 430) (tgt := 438) w49 d_Mo_match_430 rfl ?_
        refine k_iload (pc := 433) z_m4 d_Mo_match_433 ?_
        refine k_goto (pc := 435) (tgt := 440) d_Mo_match_435 rfl ?_
        refine k_sub [1, 2, 3, 5, 7, 0] rfl ?_
        exact b_Mo_match_440 c63 k63 a0 a1 a2 a5 a7 q48.1 a4 q48.2 _ hf
    · refine k_ic_ne_t (pc := 413) (tgt := 457) w50 d_Mo_match_413 rfl ?_
      refine k_aload_n (pc := 457) rfl z_m0 d_Mo_match_457 ?_
      obtain ⟨v34, e_v34, hf⟩ := z_bd hf
      refine k_getI (pc := 458) d_Mo_match_458 fd_Mo_163 rfl e_v34 ?_
      rcases z_it hf with ⟨w46, hf⟩ | ⟨w46, hf⟩
      · refine k_if_eq_t (pc := 461) (tgt := 471) w46 d_Mo_match_461 rfl ?_
        refine k_sub [0] rfl ?_
        exact b_Mo_match_471 a0 h _ hf
      · refine k_if_eq_f (pc := 461) (tgt := 471) w46 d_Mo_match_461 rfl ?_
        refine k_aload_n (pc := 464) rfl z_m0 d_Mo_match_464 ?_
        obtain ⟨v35, e_v35, hf⟩ := z_bd hf
        refine k_getI (pc := 465) d_Mo_match_465 fd_Mo_169 rfl e_v35 ?_
        rcases z_it hf with ⟨w45, hf⟩ | ⟨w45, hf⟩
        · refine k_if_eq_t (pc := 468) (tgt := 477) w45 d_Mo_match_468 rfl ?_
          refine k_aload_n (pc := 477) rfl z_m0 d_Mo_match_477 ?_
          refine k_dup (pc := 478) (Or.inr rfl) d_Mo_match_478 ?_
          obtain ⟨v36, e_v36, hf⟩ := z_bd hf
          refine k_getI (pc := 479) d_Mo_match_479 fd_Mo_163 rfl e_v36 ?_
          refine k_iconst (pc := 482) (zi_lit rfl) d_Mo_match_482 ?_
          refine k_isub (pc := 483) d_Mo_match_483 ?_
          obtain ⟨h37, e_h37, hf⟩ := z_bd hf
          refine k_putI (pc := 484) d_Mo_match_484 fd_Mo_163 (fun q => by cases q) rfl e_h37 ?_
          refine k_bipush (pc := 487) (zi_lit rfl) (by decide) d_Mo_match_487 ?_
          refine k_aload_n (pc := 489) rfl z_m0 d_Mo_match_489 ?_
          obtain ⟨v38, e_v38, hf⟩ := z_bd hf
          refine k_getI (pc := 490) d_Mo_match_490 fd_Mo_163 rfl e_v38 ?_
          refine k_imul (pc := 493) d_Mo_match_493 ?_
          refine k_istore (pc := 494) (L' := [(9, (0, zw (9 * v38))), (0, (2, ((a0 : Nat) : Int))), (1, (0, a1)), (2, (0, a2)), (4, (0, a4)), (5, (0, a5)), (6, (0, a6)), (7, (0, a7)), (8, (0, a8))]) d_Mo_match_494 (Nat.le_of_ble_eq_true rfl) rfl ?_
          refine k_aload_n (pc := 496) rfl z_m1 d_Mo_match_496 ?_
          obtain ⟨v39, e_v39, hf⟩ := z_bd hf
          refine k_getR (pc := 497) d_Mo_match_497 fd_Mo_68 rfl e_v39 ?_
          refine k_iload (pc := 500) z_m0 d_Mo_match_500 ?_
          obtain ⟨v40, e_v40, hf⟩ := z_bd hf
          refine k_iald (pc := 502) d_Mo_match_502 e_v40 ?_
          refine k_istore (pc := 503) (L' := [(6, (0, v40)), (9, (0, zw (9 * v38))), (0, (2, ((a0 : Nat) : Int))), (1, (0, a1)), (2, (0, a2)), (4, (0, a4)), (5, (0, a5)), (7, (0, a7)), (8, (0, a8))]) d_Mo_match_503 (Nat.le_of_ble_eq_true rfl) rfl ?_
          refine k_aload_n (pc := 505) rfl z_m2 d_Mo_match_505 ?_
          obtain ⟨v41, e_v41, hf⟩ := z_bd hf
          refine k_getR (pc := 506) d_Mo_match_506 fd_Mo_68 rfl e_v41 ?_
          refine k_iload (pc := 509) z_m1 d_Mo_match_509 ?_
          refine k_iconst (pc := 511) (zi_lit rfl) d_Mo_match_511 ?_
          refine k_iadd (pc := 512) d_Mo_match_512 ?_
          obtain ⟨v42, e_v42, hf⟩ := z_bd hf
          refine k_iald (pc := 513) d_Mo_match_513 e_v42 ?_
          refine k_istore (pc := 514) (L' := [(5, (0, v42)), (6, (0, v40)), (9, (0, zw (9 * v38))), (0, (2, ((a0 : Nat) : Int))), (1, (0, a1)), (2, (0, a2)), (4, (0, a4)), (7, (0, a7)), (8, (0, a8))]) d_Mo_match_514 (Nat.le_of_ble_eq_true rfl) rfl ?_
          refine k_aload_n (pc := 516) rfl z_m3 d_Mo_match_516 ?_
          obtain ⟨v43, e_v43, hf⟩ := z_bd hf
          refine k_getR (pc := 517) d_Mo_match_517 fd_Mo_68 rfl e_v43 ?_
          refine k_iload (pc := 520) z_m2 d_Mo_match_520 ?_
          refine k_iconst (pc := 522) (zi_lit rfl) d_Mo_match_522 ?_
          refine k_iadd (pc := 523) d_Mo_match_523 ?_
          obtain ⟨v44, e_v44, hf⟩ := z_bd hf
          refine k_iald (pc := 524) d_Mo_match_524 e_v44 ?_
          refine k_istore (pc := 525) (L' := [(4, (0, v44)), (5, (0, v42)), (6, (0, v40)), (9, (0, zw (9 * v38))), (0, (2, ((a0 : Nat) : Int))), (1, (0, a1)), (2, (0, a2)), (7, (0, a7)), (8, (0, a8))]) d_Mo_match_525 (Nat.le_of_ble_eq_true rfl) rfl ?_
          refine k_iconst (pc := 527) (zi_lit rfl) d_Mo_match_527 ?_
          refine k_istore (pc := 528) (L' := [(10, (0, 0)), (4, (0, v44)), (5, (0, v42)), (6, (0, v40)), (9, (0, zw (9 * v38))), (0, (2, ((a0 : Nat) : Int))), (1, (0, a1)), (2, (0, a2)), (7, (0, a7)), (8, (0, a8))]) d_Mo_match_528 (Nat.le_of_ble_eq_true rfl) rfl ?_
          refine k_sub [5, 6, 7, 1, 2, 3, 8, 4, 0] rfl ?_
          exact b_Mo_match_530 c63 k63 100000 a0 a1 a2 v44 v42 v40 a7 (zw (9 * v38)) 0 h37 _ hf
        · refine k_if_eq_f (pc := 468) (tgt := 477) w45 d_Mo_match_468 rfl ?_
          refine k_sub [0] rfl ?_
          exact b_Mo_match_471 a0 h _ hf
theorem b_Mo_match_235 (c63 : Nat → Int → Int → Int → Int → Int → Int → zH → Option (zH)) (k63 : ∀ (x0 : Nat) (x1 : Int) (x2 : Int) (x4 : Int) (x5 : Int) (x6 : Int) (x7 : Int) (g : zH) (r : zH), c63 x0 x1 x2 x4 x5 x6 x7 g = some r → zK m_Mo_match 63 [(0, (2, ((x0 : Nat) : Int))), (1, (0, x1)), (2, (0, x2)), (4, (0, x4)), (5, (0, x5)), (6, (0, x6)), (7, (0, x7))] [] g (none, r)) (a0 : Nat) (a1 : Int) (a2 : Int) (a4 : Int) (a5 : Int) (a6 : Int) (a7 : Int) (a8 : Int) (h : zH) (r : zH) (hf : f_Mo_match_235 c63 a0 a1 a2 a4 a5 a6 a7 a8 h = some r) : zK m_Mo_match 235 [(0, (2, ((a0 : Nat) : Int))), (1, (0, a1)), (2, (0, a2)), (4, (0, a4)), (5, (0, a5)), (6, (0, a6)), (7, (0, a7)), (8, (0, a8))] [] h (none, r) := by
  unfold f_Mo_match_235 at hf
  refine k_iload (pc := 235) z_m5 d_Mo_match_235 ?_
  rcases z_it hf with ⟨w57, hf⟩ | ⟨w57, hf⟩
  · refine k_if_eq_t (pc := 237) (tgt := 246) w57 d_Mo_match_237 rfl ?_
    refine k_sub [0, 1, 2, 3, 4, 6, 7] rfl ?_
    exact b_Mo_match_246 c63 k63 a0 a1 a2 a4 a5 a7 a8 h _ hf
  · refine k_if_eq_f (pc := 237) (tgt := 246) w57 d_Mo_match_237 rfl ?_
    refine k_iload (pc := 240) z_m5 d_Mo_match_240 ?_
    refine k_iconst (pc := 242) (zi_lit rfl) d_Mo_match_242 ?_
    rcases z_it hf with ⟨w56, hf⟩ | ⟨w56, hf⟩
    · refine k_ic_ne_f (pc := 243) (tgt := 331) w56 d_Mo_match_243 rfl ?_
      refine k_sub [0, 1, 2, 3, 4, 6, 7] rfl ?_
      exact b_Mo_match_246 c63 k63 a0 a1 a2 a4 a5 a7 a8 h _ hf
    · refine k_ic_ne_t (pc := 243) (tgt := 331) w56 d_Mo_match_243 rfl ?_
      refine k_iload (pc := 331) z_m5 d_Mo_match_331 ?_
      refine k_iconst (pc := 333) (zi_lit rfl) d_Mo_match_333 ?_
      rcases z_it hf with ⟨w55, hf⟩ | ⟨w55, hf⟩
      · refine k_ic_ne_f (pc := 334) (tgt := 349) w55 d_Mo_match_334 rfl ?_
        refine k_aload_n (pc := 337) rfl z_m0 d_Mo_match_337 ?_
        refine k_iload_n (pc := 338) rfl z_m1 d_Mo_match_338 ?_
        refine k_iload (pc := 339) z_m4 d_Mo_match_339 ?_
        obtain ⟨n52, e_n52, hf⟩ := z_bd hf
        obtain ⟨q53, e_q53, hf⟩ := z_bd hf
        refine k_callVi (pc := 341) (as := [(0, a1), (0, a5)]) (rest := []) d_Mo_match_341 cw_Mo_match_132 rfl (Nat.le_of_ble_eq_true rfl) (z_ck_of e_n52) (t_Mo_at e_q53) ?_
        refine k_bipush (pc := 344) (zi_lit rfl) (by decide) d_Mo_match_344 ?_
        rcases z_it hf with ⟨w54, hf⟩ | ⟨w54, hf⟩
        · refine k_ic_eq_t (pc := 346) (tgt := 355) w54 d_Mo_match_346 rfl ?_
          exact b_Mo_match_355 c63 k63 a0 a1 a2 a4 a5 a6 a7 a8 q53.2 _ hf
        · refine k_ic_eq_f (pc := 346) (tgt := 355) w54 d_Mo_match_346 rfl ?_
          exact b_Mo_match_349 c63 k63 a0 a1 a2 a4 a5 a6 a7 a8 q53.2 _ hf
      · refine k_ic_ne_t (pc := 334) (tgt := 349) w55 d_Mo_match_334 rfl ?_
        exact b_Mo_match_349 c63 k63 a0 a1 a2 a4 a5 a6 a7 a8 h _ hf
theorem b_Mo_match_220 (c63 : Nat → Int → Int → Int → Int → Int → Int → zH → Option (zH)) (k63 : ∀ (x0 : Nat) (x1 : Int) (x2 : Int) (x4 : Int) (x5 : Int) (x6 : Int) (x7 : Int) (g : zH) (r : zH), c63 x0 x1 x2 x4 x5 x6 x7 g = some r → zK m_Mo_match 63 [(0, (2, ((x0 : Nat) : Int))), (1, (0, x1)), (2, (0, x2)), (4, (0, x4)), (5, (0, x5)), (6, (0, x6)), (7, (0, x7))] [] g (none, r)) (a0 : Nat) (a1 : Int) (a2 : Int) (a4 : Int) (a7 : Int) (a8 : Int) (h : zH) (r : zH) (hf : f_Mo_match_220 c63 a0 a1 a2 a4 a7 a8 h = some r) : zK m_Mo_match 220 [(0, (2, ((a0 : Nat) : Int))), (1, (0, a1)), (2, (0, a2)), (4, (0, a4)), (7, (0, a7)), (8, (0, a8))] [] h (none, r) := by
  unfold f_Mo_match_220 at hf
  refine k_aload_n (pc := 220) rfl z_m0 d_Mo_match_220 ?_
  obtain ⟨v58, e_v58, hf⟩ := z_bd hf
  refine k_getR (pc := 221) d_Mo_match_221 fd_Mo_38 rfl e_v58 ?_
  refine k_iload (pc := 224) z_m5 d_Mo_match_224 ?_
  obtain ⟨v59, e_v59, hf⟩ := z_bd hf
  refine k_iald (pc := 226) d_Mo_match_226 e_v59 ?_
  refine k_istore (pc := 227) (L' := [(5, (0, v59)), (0, (2, ((a0 : Nat) : Int))), (1, (0, a1)), (2, (0, a2)), (4, (0, a4)), (7, (0, a7)), (8, (0, a8))]) d_Mo_match_227 (Nat.le_of_ble_eq_true rfl) rfl ?_
  refine k_iconst (pc := 229) (zi_lit rfl) d_Mo_match_229 ?_
  refine k_istore (pc := 230) (L' := [(6, (0, 0)), (5, (0, v59)), (0, (2, ((a0 : Nat) : Int))), (1, (0, a1)), (2, (0, a2)), (4, (0, a4)), (7, (0, a7)), (8, (0, a8))]) d_Mo_match_230 (Nat.le_of_ble_eq_true rfl) rfl ?_
  refine k_goto (pc := 232) (tgt := 562) d_Mo_match_232 rfl ?_
  refine k_sub [2, 3, 4, 5, 1, 0, 6] rfl ?_
  exact b_Mo_match_562 c63 k63 a0 a1 a2 a4 v59 0 a7 h _ hf
theorem b_Mo_match_191 (c63 : Nat → Int → Int → Int → Int → Int → Int → zH → Option (zH)) (k63 : ∀ (x0 : Nat) (x1 : Int) (x2 : Int) (x4 : Int) (x5 : Int) (x6 : Int) (x7 : Int) (g : zH) (r : zH), c63 x0 x1 x2 x4 x5 x6 x7 g = some r → zK m_Mo_match 63 [(0, (2, ((x0 : Nat) : Int))), (1, (0, x1)), (2, (0, x2)), (4, (0, x4)), (5, (0, x5)), (6, (0, x6)), (7, (0, x7))] [] g (none, r)) (a0 : Nat) (a1 : Int) (a2 : Int) (a4 : Int) (a5 : Int) (a6 : Int) (a7 : Int) (a8 : Int) (h : zH) (r : zH) (hf : f_Mo_match_191 c63 a0 a1 a2 a4 a5 a6 a7 a8 h = some r) : zK m_Mo_match 191 [(0, (2, ((a0 : Nat) : Int))), (1, (0, a1)), (2, (0, a2)), (4, (0, a4)), (5, (0, a5)), (6, (0, a6)), (7, (0, a7)), (8, (0, a8))] [] h (none, r) := by
  unfold f_Mo_match_191 at hf
  refine k_iload (pc := 191) z_m5 d_Mo_match_191 ?_
  refine k_iconst (pc := 193) (zi_lit rfl) d_Mo_match_193 ?_
  rcases z_it hf with ⟨w66, hf⟩ | ⟨w66, hf⟩
  · refine k_ic_ne_f (pc := 194) (tgt := 235) w66 d_Mo_match_194 rfl ?_
    refine k_aload_n (pc := 197) rfl z_m0 d_Mo_match_197 ?_
    obtain ⟨v60, e_v60, hf⟩ := z_bd hf
    refine k_getR (pc := 198) d_Mo_match_198 fd_Mo_32 rfl e_v60 ?_
    refine k_iload (pc := 201) z_m7 d_Mo_match_201 ?_
    obtain ⟨v61, e_v61, hf⟩ := z_bd hf
    refine k_iald (pc := 203) d_Mo_match_203 e_v61 ?_
    rcases z_it hf with ⟨w65, hf⟩ | ⟨w65, hf⟩
    · refine k_if_eq_t (pc := 204) (tgt := 220) w65 d_Mo_match_204 rfl ?_
      refine k_sub [0, 1, 2, 3, 6, 7] rfl ?_
      exact b_Mo_match_220 c63 k63 a0 a1 a2 a4 a7 a8 h _ hf
    · refine k_if_eq_f (pc := 204) (tgt := 220) w65 d_Mo_match_204 rfl ?_
      refine k_aload_n (pc := 207) rfl z_m0 d_Mo_match_207 ?_
      obtain ⟨v62, e_v62, hf⟩ := z_bd hf
      refine k_getR (pc := 208) d_Mo_match_208 fd_Mo_32 rfl e_v62 ?_
      refine k_iload (pc := 211) z_m7 d_Mo_match_211 ?_
      obtain ⟨v63, e_v63, hf⟩ := z_bd hf
      refine k_iald (pc := 213) d_Mo_match_213 e_v63 ?_
      refine k_iconst (pc := 214) (zi_lit rfl) d_Mo_match_214 ?_
      refine k_irem (pc := 215) (by decide) d_Mo_match_215 ?_
      refine k_iconst (pc := 216) (zi_lit rfl) d_Mo_match_216 ?_
      rcases z_it hf with ⟨w64, hf⟩ | ⟨w64, hf⟩
      · refine k_ic_ne_f (pc := 217) (tgt := 235) w64 d_Mo_match_217 rfl ?_
        refine k_sub [0, 1, 2, 3, 6, 7] rfl ?_
        exact b_Mo_match_220 c63 k63 a0 a1 a2 a4 a7 a8 h _ hf
      · refine k_ic_ne_t (pc := 217) (tgt := 235) w64 d_Mo_match_217 rfl ?_
        exact b_Mo_match_235 c63 k63 a0 a1 a2 a4 a5 a6 a7 a8 h _ hf
  · refine k_ic_ne_t (pc := 194) (tgt := 235) w66 d_Mo_match_194 rfl ?_
    exact b_Mo_match_235 c63 k63 a0 a1 a2 a4 a5 a6 a7 a8 h _ hf
theorem b_Mo_match_185 (c63 : Nat → Int → Int → Int → Int → Int → Int → zH → Option (zH)) (k63 : ∀ (x0 : Nat) (x1 : Int) (x2 : Int) (x4 : Int) (x5 : Int) (x6 : Int) (x7 : Int) (g : zH) (r : zH), c63 x0 x1 x2 x4 x5 x6 x7 g = some r → zK m_Mo_match 63 [(0, (2, ((x0 : Nat) : Int))), (1, (0, x1)), (2, (0, x2)), (4, (0, x4)), (5, (0, x5)), (6, (0, x6)), (7, (0, x7))] [] g (none, r)) (a0 : Nat) (a1 : Int) (a2 : Int) (a4 : Int) (a5 : Int) (a7 : Int) (h : zH) (r : zH) (hf : f_Mo_match_185 c63 a0 a1 a2 a4 a5 a7 h = some r) : zK m_Mo_match 185 [(0, (2, ((a0 : Nat) : Int))), (1, (0, a1)), (2, (0, a2)), (4, (0, a4)), (5, (0, a5)), (7, (0, a7))] [] h (none, r) := by
  unfold f_Mo_match_185 at hf
  refine k_iconst (pc := 185) (zi_lit rfl) d_Mo_match_185 ?_
  refine k_istore (pc := 186) (L' := [(6, (0, 1)), (0, (2, ((a0 : Nat) : Int))), (1, (0, a1)), (2, (0, a2)), (4, (0, a4)), (5, (0, a5)), (7, (0, a7))]) d_Mo_match_186 (Nat.le_of_ble_eq_true rfl) rfl ?_
  refine k_goto (pc := 188) (tgt := 562) d_Mo_match_188 rfl ?_
  refine k_sub [1, 2, 3, 4, 5, 0, 6] rfl ?_
  exact b_Mo_match_562 c63 k63 a0 a1 a2 a4 a5 1 a7 h _ hf
theorem b_Mo_match_157 (c63 : Nat → Int → Int → Int → Int → Int → Int → zH → Option (zH)) (k63 : ∀ (x0 : Nat) (x1 : Int) (x2 : Int) (x4 : Int) (x5 : Int) (x6 : Int) (x7 : Int) (g : zH) (r : zH), c63 x0 x1 x2 x4 x5 x6 x7 g = some r → zK m_Mo_match 63 [(0, (2, ((x0 : Nat) : Int))), (1, (0, x1)), (2, (0, x2)), (4, (0, x4)), (5, (0, x5)), (6, (0, x6)), (7, (0, x7))] [] g (none, r)) (a0 : Nat) (a1 : Int) (a2 : Int) (a4 : Int) (a5 : Int) (a6 : Int) (a7 : Int) (a8 : Int) (h : zH) (r : zH) (hf : f_Mo_match_157 c63 a0 a1 a2 a4 a5 a6 a7 a8 h = some r) : zK m_Mo_match 157 [(0, (2, ((a0 : Nat) : Int))), (1, (0, a1)), (2, (0, a2)), (4, (0, a4)), (5, (0, a5)), (6, (0, a6)), (7, (0, a7)), (8, (0, a8))] [] h (none, r) := by
  unfold f_Mo_match_157 at hf
  refine k_iload (pc := 157) z_m5 d_Mo_match_157 ?_
  rcases z_it hf with ⟨w73, hf⟩ | ⟨w73, hf⟩
  · refine k_if_ne_f (pc := 159) (tgt := 191) w73 d_Mo_match_159 rfl ?_
    refine k_aload_n (pc := 162) rfl z_m0 d_Mo_match_162 ?_
    obtain ⟨v67, e_v67, hf⟩ := z_bd hf
    refine k_getR (pc := 163) d_Mo_match_163 fd_Mo_32 rfl e_v67 ?_
    refine k_iload (pc := 166) z_m7 d_Mo_match_166 ?_
    obtain ⟨v68, e_v68, hf⟩ := z_bd hf
    refine k_iald (pc := 168) d_Mo_match_168 e_v68 ?_
    rcases z_it hf with ⟨w72, hf⟩ | ⟨w72, hf⟩
    · refine k_if_eq_t (pc := 169) (tgt := 185) w72 d_Mo_match_169 rfl ?_
      refine k_sub [0, 1, 2, 3, 4, 6] rfl ?_
      exact b_Mo_match_185 c63 k63 a0 a1 a2 a4 a5 a7 h _ hf
    · refine k_if_eq_f (pc := 169) (tgt := 185) w72 d_Mo_match_169 rfl ?_
      refine k_aload_n (pc := 172) rfl z_m0 d_Mo_match_172 ?_
      obtain ⟨v69, e_v69, hf⟩ := z_bd hf
      refine k_getR (pc := 173) d_Mo_match_173 fd_Mo_32 rfl e_v69 ?_
      refine k_iload (pc := 176) z_m7 d_Mo_match_176 ?_
      obtain ⟨v70, e_v70, hf⟩ := z_bd hf
      refine k_iald (pc := 178) d_Mo_match_178 e_v70 ?_
      refine k_iconst (pc := 179) (zi_lit rfl) d_Mo_match_179 ?_
      refine k_irem (pc := 180) (by decide) d_Mo_match_180 ?_
      refine k_iconst (pc := 181) (zi_lit rfl) d_Mo_match_181 ?_
      rcases z_it hf with ⟨w71, hf⟩ | ⟨w71, hf⟩
      · refine k_ic_ne_f (pc := 182) (tgt := 191) w71 d_Mo_match_182 rfl ?_
        refine k_sub [0, 1, 2, 3, 4, 6] rfl ?_
        exact b_Mo_match_185 c63 k63 a0 a1 a2 a4 a5 a7 h _ hf
      · refine k_ic_ne_t (pc := 182) (tgt := 191) w71 d_Mo_match_182 rfl ?_
        exact b_Mo_match_191 c63 k63 a0 a1 a2 a4 a5 a6 a7 a8 h _ hf
  · refine k_if_ne_t (pc := 159) (tgt := 191) w73 d_Mo_match_159 rfl ?_
    exact b_Mo_match_191 c63 k63 a0 a1 a2 a4 a5 a6 a7 a8 h _ hf
theorem b_Mo_match_154 (c63 : Nat → Int → Int → Int → Int → Int → Int → zH → Option (zH)) (k63 : ∀ (x0 : Nat) (x1 : Int) (x2 : Int) (x4 : Int) (x5 : Int) (x6 : Int) (x7 : Int) (g : zH) (r : zH), c63 x0 x1 x2 x4 x5 x6 x7 g = some r → zK m_Mo_match 63 [(0, (2, ((x0 : Nat) : Int))), (1, (0, x1)), (2, (0, x2)), (4, (0, x4)), (5, (0, x5)), (6, (0, x6)), (7, (0, x7))] [] g (none, r)) (a0 : Nat) (a1 : Int) (a2 : Int) (a4 : Int) (a5 : Int) (a6 : Int) (a7 : Int) (h : zH) (r : zH) (hf : f_Mo_match_154 c63 a0 a1 a2 a4 a5 a6 a7 h = some r) : zK m_Mo_match 154 [(0, (2, ((a0 : Nat) : Int))), (1, (0, a1)), (2, (0, a2)), (4, (0, a4)), (5, (0, a5)), (6, (0, a6)), (7, (0, a7))] [] h (none, r) := by
  unfold f_Mo_match_154 at hf
  refine k_goto (pc := 154) (tgt := 562) d_Mo_match_154 rfl ?_
  exact b_Mo_match_562 c63 k63 a0 a1 a2 a4 a5 a6 a7 h _ hf
theorem b_Mo_match_120 (c63 : Nat → Int → Int → Int → Int → Int → Int → zH → Option (zH)) (k63 : ∀ (x0 : Nat) (x1 : Int) (x2 : Int) (x4 : Int) (x5 : Int) (x6 : Int) (x7 : Int) (g : zH) (r : zH), c63 x0 x1 x2 x4 x5 x6 x7 g = some r → zK m_Mo_match 63 [(0, (2, ((x0 : Nat) : Int))), (1, (0, x1)), (2, (0, x2)), (4, (0, x4)), (5, (0, x5)), (6, (0, x6)), (7, (0, x7))] [] g (none, r)) (a0 : Nat) (a1 : Int) (a2 : Int) (a4 : Int) (a5 : Int) (a7 : Int) (a9 : Int) (s0 : Int) (h : zH) (r : zH) (hf : f_Mo_match_120 c63 a0 a1 a2 a4 a5 a7 a9 s0 h = some r) : zK m_Mo_match 120 [(0, (2, ((a0 : Nat) : Int))), (1, (0, a1)), (2, (0, a2)), (4, (0, a4)), (5, (0, a5)), (7, (0, a7)), (9, (0, a9))] [(0, s0)] h (none, r) := by
  unfold f_Mo_match_120 at hf
  refine k_istore (pc := 120) (L' := [(6, (0, s0)), (0, (2, ((a0 : Nat) : Int))), (1, (0, a1)), (2, (0, a2)), (4, (0, a4)), (5, (0, a5)), (7, (0, a7)), (9, (0, a9))]) d_Mo_match_120 (Nat.le_of_ble_eq_true rfl) rfl ?_
  refine k_iload (pc := 122) z_m7 d_Mo_match_122 ?_
  rcases z_it hf with ⟨w78, hf⟩ | ⟨w78, hf⟩
  · refine k_if_lt_t (pc := 124) (tgt := 154) w78 d_Mo_match_124 rfl ?_
    refine k_sub [1, 2, 3, 4, 5, 0, 6] rfl ?_
    exact b_Mo_match_154 c63 k63 a0 a1 a2 a4 a5 s0 a7 h _ hf
  · refine k_if_lt_f (pc := 124) (tgt := 154) w78 d_Mo_match_124 rfl ?_
    refine k_aload_n (pc := 127) rfl z_m1 d_Mo_match_127 ?_
    obtain ⟨v74, e_v74, hf⟩ := z_bd hf
    refine k_getR (pc := 128) d_Mo_match_128 fd_Mo_65 rfl e_v74 ?_
    refine k_iconst (pc := 131) (zi_lit rfl) d_Mo_match_131 ?_
    refine k_aload_n (pc := 132) rfl z_m1 d_Mo_match_132 ?_
    obtain ⟨v75, e_v75, hf⟩ := z_bd hf
    refine k_getR (pc := 133) d_Mo_match_133 fd_Mo_41 rfl e_v75 ?_
    refine k_bipush (pc := 136) (zi_lit rfl) (by decide) d_Mo_match_136 ?_
    refine k_iload_n (pc := 138) rfl z_m2 d_Mo_match_138 ?_
    refine k_imul (pc := 139) d_Mo_match_139 ?_
    refine k_iload (pc := 140) z_m7 d_Mo_match_140 ?_
    refine k_iadd (pc := 142) d_Mo_match_142 ?_
    obtain ⟨v76, e_v76, hf⟩ := z_bd hf
    refine k_iald (pc := 143) d_Mo_match_143 e_v76 ?_
    refine k_imul (pc := 144) d_Mo_match_144 ?_
    refine k_iconst (pc := 145) (zi_lit rfl) d_Mo_match_145 ?_
    refine k_iadd (pc := 146) d_Mo_match_146 ?_
    refine k_iload (pc := 147) z_m4 d_Mo_match_147 ?_
    obtain ⟨h77, e_h77, hf⟩ := z_bd hf
    refine k_iast (pc := 149) d_Mo_match_149 e_h77 ?_
    refine k_iload (pc := 150) z_m7 d_Mo_match_150 ?_
    refine k_istore (pc := 152) (L' := [(5, (0, a9)), (6, (0, s0)), (0, (2, ((a0 : Nat) : Int))), (1, (0, a1)), (2, (0, a2)), (4, (0, a4)), (7, (0, a7)), (9, (0, a9))]) d_Mo_match_152 (Nat.le_of_ble_eq_true rfl) rfl ?_
    refine k_sub [2, 3, 4, 5, 0, 1, 6] rfl ?_
    exact b_Mo_match_154 c63 k63 a0 a1 a2 a4 a9 s0 a7 h77 _ hf
theorem b_Mo_match_63 : ∀ (n : Nat) (a0 : Nat) (a1 : Int) (a2 : Int) (a4 : Int) (a5 : Int) (a6 : Int) (a7 : Int) (h : zH) (r : zH), f_Mo_match_63 n a0 a1 a2 a4 a5 a6 a7 h = some r → zK m_Mo_match 63 [(0, (2, ((a0 : Nat) : Int))), (1, (0, a1)), (2, (0, a2)), (4, (0, a4)), (5, (0, a5)), (6, (0, a6)), (7, (0, a7))] [] h (none, r) := by
  intro n
  induction n with
  | zero =>
    intro a0 a1 a2 a4 a5 a6 a7 h r hf
    cases hf
  | succ n ih =>
    intro a0 a1 a2 a4 a5 a6 a7 h r hf
    unfold f_Mo_match_63 at hf
    refine k_iload (pc := 63) z_m6 d_Mo_match_63 ?_
    refine k_sipush (pc := 65) (zi_lit rfl) (by decide) d_Mo_match_65 ?_
    rcases z_it hf with ⟨w87, hf⟩ | ⟨w87, hf⟩
    · refine k_ic_ge_t (pc := 68) (tgt := 568) w87 d_Mo_match_68 rfl ?_
      refine k_sub [0, 3] rfl ?_
      exact b_Mo_match_568 a0 a4 h _ hf
    · refine k_ic_ge_f (pc := 68) (tgt := 568) w87 d_Mo_match_68 rfl ?_
      refine k_iload (pc := 71) z_m5 d_Mo_match_71 ?_
      refine k_iconst (pc := 73) (zi_lit rfl) d_Mo_match_73 ?_
      rcases z_it hf with ⟨w86, hf⟩ | ⟨w86, hf⟩
      · refine k_ic_eq_t (pc := 74) (tgt := 568) w86 d_Mo_match_74 rfl ?_
        refine k_sub [0, 3] rfl ?_
        exact b_Mo_match_568 a0 a4 h _ hf
      · refine k_ic_eq_f (pc := 74) (tgt := 568) w86 d_Mo_match_74 rfl ?_
        refine k_bipush (pc := 77) (zi_lit rfl) (by decide) d_Mo_match_77 ?_
        refine k_iload_n (pc := 79) rfl z_m1 d_Mo_match_79 ?_
        refine k_imul (pc := 80) d_Mo_match_80 ?_
        refine k_iload (pc := 81) z_m4 d_Mo_match_81 ?_
        refine k_iadd (pc := 83) d_Mo_match_83 ?_
        refine k_istore (pc := 84) (L' := [(8, (0, zw ((zw (21 * a1)) + a5))), (0, (2, ((a0 : Nat) : Int))), (1, (0, a1)), (2, (0, a2)), (4, (0, a4)), (5, (0, a5)), (6, (0, a6)), (7, (0, a7))]) d_Mo_match_84 (Nat.le_of_ble_eq_true rfl) rfl ?_
        refine k_iload (pc := 86) z_m6 d_Mo_match_86 ?_
        rcases z_it hf with ⟨w85, hf⟩ | ⟨w85, hf⟩
        · refine k_if_ne_f (pc := 88) (tgt := 157) w85 d_Mo_match_88 rfl ?_
          refine k_aload_n (pc := 91) rfl z_m1 d_Mo_match_91 ?_
          refine k_iload_n (pc := 92) rfl z_m2 d_Mo_match_92 ?_
          refine k_iload (pc := 93) z_m5 d_Mo_match_93 ?_
          obtain ⟨n79, e_n79, hf⟩ := z_bd hf
          obtain ⟨q80, e_q80, hf⟩ := z_bd hf
          refine k_callVi (pc := 95) (as := [(0, a1), (0, a5)]) (rest := []) d_Mo_match_95 cw_Mo_match_184 rfl (Nat.le_of_ble_eq_true rfl) (z_ck_of e_n79) (t_Mo_ended e_q80) ?_
          rcases z_it hf with ⟨w84, hf⟩ | ⟨w84, hf⟩
          · refine k_if_eq_t (pc := 98) (tgt := 157) w84 d_Mo_match_98 rfl ?_
            refine k_sub [1, 2, 3, 4, 5, 6, 7, 0] rfl ?_
            exact b_Mo_match_157 (f_Mo_match_63 n) ih a0 a1 a2 a4 a5 a6 a7 (zw ((zw (21 * a1)) + a5)) q80.2 _ hf
          · refine k_if_eq_f (pc := 98) (tgt := 157) w84 d_Mo_match_98 rfl ?_
            refine k_aload_n (pc := 101) rfl z_m1 d_Mo_match_101 ?_
            obtain ⟨v81, e_v81, hf⟩ := z_bd hf
            refine k_getR (pc := 102) d_Mo_match_102 fd_Mo_44 rfl e_v81 ?_
            refine k_iload (pc := 105) z_m0 d_Mo_match_105 ?_
            obtain ⟨v82, e_v82, hf⟩ := z_bd hf
            refine k_iald (pc := 107) d_Mo_match_107 e_v82 ?_
            refine k_istore (pc := 108) (L' := [(9, (0, v82)), (8, (0, zw ((zw (21 * a1)) + a5))), (0, (2, ((a0 : Nat) : Int))), (1, (0, a1)), (2, (0, a2)), (4, (0, a4)), (5, (0, a5)), (6, (0, a6)), (7, (0, a7))]) d_Mo_match_108 (Nat.le_of_ble_eq_true rfl) rfl ?_
            refine k_iload (pc := 110) z_m0 d_Mo_match_110 ?_
            rcases z_it hf with ⟨w83, hf⟩ | ⟨w83, hf⟩
            · refine k_if_ge_t (pc := 112) (tgt := 119) w83 d_Mo_match_112 rfl ?_
              refine k_iconst (pc := 119) (zi_lit rfl) d_Mo_match_119 ?_
              refine k_sub [2, 3, 4, 5, 6, 8, 0] rfl ?_
              exact b_Mo_match_120 (f_Mo_match_63 n) ih a0 a1 a2 a4 a5 a7 v82 2 q80.2 _ hf
            · refine k_if_ge_f (pc := 112) (tgt := 119) w83 d_Mo_match_112 rfl ?_
              refine k_iconst (pc := 115) (zi_lit rfl) d_Mo_match_115 ?_
              refine k_goto (pc := 116) (tgt := 120) d_Mo_match_116 rfl ?_
              refine k_sub [2, 3, 4, 5, 6, 8, 0] rfl ?_
              exact b_Mo_match_120 (f_Mo_match_63 n) ih a0 a1 a2 a4 a5 a7 v82 5 q80.2 _ hf
        · refine k_if_ne_t (pc := 88) (tgt := 157) w85 d_Mo_match_88 rfl ?_
          refine k_sub [1, 2, 3, 4, 5, 6, 7, 0] rfl ?_
          exact b_Mo_match_157 (f_Mo_match_63 n) ih a0 a1 a2 a4 a5 a6 a7 (zw ((zw (21 * a1)) + a5)) h _ hf
theorem b_Mo_match_60 (a0 : Nat) (a1 : Int) (a2 : Int) (a4 : Int) (a5 : Int) (a6 : Int) (h : zH) (r : zH) (hf : f_Mo_match_60 a0 a1 a2 a4 a5 a6 h = some r) : zK m_Mo_match 60 [(0, (2, ((a0 : Nat) : Int))), (1, (0, a1)), (2, (0, a2)), (4, (0, a4)), (5, (0, a5)), (6, (0, a6))] [] h (none, r) := by
  unfold f_Mo_match_60 at hf
  refine k_iconst (pc := 60) (zi_lit rfl) d_Mo_match_60 ?_
  refine k_istore (pc := 61) (L' := [(7, (0, 0)), (0, (2, ((a0 : Nat) : Int))), (1, (0, a1)), (2, (0, a2)), (4, (0, a4)), (5, (0, a5)), (6, (0, a6))]) d_Mo_match_61 (Nat.le_of_ble_eq_true rfl) rfl ?_
  refine k_sub [1, 2, 3, 4, 5, 6, 0] rfl ?_
  exact b_Mo_match_63 100000 a0 a1 a2 a4 a5 a6 0 h _ hf
theorem b_Mo_match_3 : ∀ (n : Nat) (a0 : Nat) (a1 : Int) (a2 : Int) (a3 : Int) (a4 : Int) (h : zH) (r : zH), f_Mo_match_3 n a0 a1 a2 a3 a4 h = some r → zK m_Mo_match 3 [(0, (2, ((a0 : Nat) : Int))), (1, (0, a1)), (2, (0, a2)), (3, (0, a3)), (4, (0, a4))] [] h (none, r) := by
  intro n
  induction n with
  | zero =>
    intro a0 a1 a2 a3 a4 h r hf
    cases hf
  | succ n ih =>
    intro a0 a1 a2 a3 a4 h r hf
    unfold f_Mo_match_3 at hf
    refine k_iload (pc := 3) z_m4 d_Mo_match_3 ?_
    refine k_bipush (pc := 5) (zi_lit rfl) (by decide) d_Mo_match_5 ?_
    rcases z_it hf with ⟨w98, hf⟩ | ⟨w98, hf⟩
    · refine k_ic_ge_t (pc := 7) (tgt := 24) w98 d_Mo_match_7 rfl ?_
      refine k_aload_n (pc := 24) rfl z_m0 d_Mo_match_24 ?_
      refine k_iconst (pc := 25) (zi_lit rfl) d_Mo_match_25 ?_
      obtain ⟨h88, e_h88, hf⟩ := z_bd hf
      refine k_putI (pc := 26) d_Mo_match_26 fd_Mo_163 (fun q => by cases q) rfl e_h88 ?_
      refine k_iload_n (pc := 29) rfl z_m3 d_Mo_match_29 ?_
      refine k_istore (pc := 30) (L' := [(4, (0, a3)), (0, (2, ((a0 : Nat) : Int))), (1, (0, a1)), (2, (0, a2)), (3, (0, a3))]) d_Mo_match_30 (Nat.le_of_ble_eq_true rfl) rfl ?_
      refine k_iconst (pc := 32) (zi_lit rfl) d_Mo_match_32 ?_
      refine k_istore (pc := 33) (L' := [(5, (0, 0)), (4, (0, a3)), (0, (2, ((a0 : Nat) : Int))), (1, (0, a1)), (2, (0, a2)), (3, (0, a3))]) d_Mo_match_33 (Nat.le_of_ble_eq_true rfl) rfl ?_
      refine k_iconst (pc := 35) (zi_lit rfl) d_Mo_match_35 ?_
      refine k_istore (pc := 36) (L' := [(6, (0, 0)), (5, (0, 0)), (4, (0, a3)), (0, (2, ((a0 : Nat) : Int))), (1, (0, a1)), (2, (0, a2)), (3, (0, a3))]) d_Mo_match_36 (Nat.le_of_ble_eq_true rfl) rfl ?_
      refine k_aload_n (pc := 38) rfl z_m3 d_Mo_match_38 ?_
      obtain ⟨v89, e_v89, hf⟩ := z_bd hf
      refine k_getR (pc := 39) d_Mo_match_39 fd_Mo_50 rfl e_v89 ?_
      refine k_iload_n (pc := 42) rfl z_m4 d_Mo_match_42 ?_
      obtain ⟨v90, e_v90, hf⟩ := z_bd hf
      refine k_iald (pc := 43) d_Mo_match_43 e_v90 ?_
      rcases z_it hf with ⟨w95, hf⟩ | ⟨w95, hf⟩
      · refine k_if_lt_t (pc := 44) (tgt := 60) w95 d_Mo_match_44 rfl ?_
        refine k_sub [3, 4, 5, 2, 1, 0] rfl ?_
        exact b_Mo_match_60 a0 a1 a2 a3 0 0 h88 _ hf
      · refine k_if_lt_f (pc := 44) (tgt := 60) w95 d_Mo_match_44 rfl ?_
        refine k_aload_n (pc := 47) rfl z_m3 d_Mo_match_47 ?_
        refine k_iconst (pc := 48) (zi_lit rfl) d_Mo_match_48 ?_
        refine k_aload_n (pc := 49) rfl z_m3 d_Mo_match_49 ?_
        obtain ⟨v91, e_v91, hf⟩ := z_bd hf
        refine k_getR (pc := 50) d_Mo_match_50 fd_Mo_50 rfl e_v91 ?_
        refine k_iload_n (pc := 53) rfl z_m4 d_Mo_match_53 ?_
        obtain ⟨v92, e_v92, hf⟩ := z_bd hf
        refine k_iald (pc := 54) d_Mo_match_54 e_v92 ?_
        refine k_iload (pc := 55) z_m2 d_Mo_match_55 ?_
        obtain ⟨n93, e_n93, hf⟩ := z_bd hf
        obtain ⟨h94, e_h94, hf⟩ := z_bd hf
        refine k_callVv (pc := 57) (as := [(0, 3), (0, v92), (0, a3)]) (rest := []) d_Mo_match_57 cw_Mo_match_181 rfl (Nat.le_of_ble_eq_true rfl) (z_ck_of e_n93) (t_Mo_push e_h94) ?_
        refine k_sub [3, 4, 5, 2, 1, 0] rfl ?_
        exact b_Mo_match_60 a0 a1 a2 a3 0 0 h94 _ hf
    · refine k_ic_ge_f (pc := 7) (tgt := 24) w98 d_Mo_match_7 rfl ?_
      refine k_aload_n (pc := 10) rfl z_m0 d_Mo_match_10 ?_
      obtain ⟨v96, e_v96, hf⟩ := z_bd hf
      refine k_getR (pc := 11) d_Mo_match_11 fd_Mo_65 rfl e_v96 ?_
      refine k_iload (pc := 14) z_m4 d_Mo_match_14 ?_
      refine k_iconst (pc := 16) (zi_lit rfl) d_Mo_match_16 ?_
      obtain ⟨h97, e_h97, hf⟩ := z_bd hf
      refine k_iast (pc := 17) d_Mo_match_17 e_h97 ?_
      refine k_iinc (pc := 18) (L' := [(4, (0, zw (a4 + 1))), (0, (2, ((a0 : Nat) : Int))), (1, (0, a1)), (2, (0, a2)), (3, (0, a3))]) z_m4 d_Mo_match_18 (Nat.le_of_ble_eq_true rfl) rfl ?_
      refine k_goto (pc := 21) (tgt := 3) d_Mo_match_21 rfl ?_
      refine k_sub [1, 2, 3, 4, 0] rfl ?_
      exact ih a0 a1 a2 a3 (zw (a4 + 1)) h97 _ hf
theorem b_Mo_match_0 (a0 : Nat) (a1 : Int) (a2 : Int) (a3 : Int) (h : zH) (r : zH) (hf : f_Mo_match a0 a1 a2 a3 h = some r) : zK m_Mo_match 0 [(0, (2, ((a0 : Nat) : Int))), (1, (0, a1)), (2, (0, a2)), (3, (0, a3))] [] h (none, r) := by
  unfold f_Mo_match at hf
  refine k_iconst (pc := 0) (zi_lit rfl) d_Mo_match_0 ?_
  refine k_istore (pc := 1) (L' := [(4, (0, 0)), (0, (2, ((a0 : Nat) : Int))), (1, (0, a1)), (2, (0, a2)), (3, (0, a3))]) d_Mo_match_1 (Nat.le_of_ble_eq_true rfl) rfl ?_
  refine k_sub [1, 2, 3, 4, 0] rfl ?_
  exact b_Mo_match_3 100000 a0 a1 a2 a3 0 h _ hf
theorem t_Mo_match {a0 : Nat} {a1 : Int} {a2 : Int} {a3 : Int} {h : zH} {r : zH} (hf : f_Mo_match a0 a1 a2 a3 h = some r) : zMt m_Mo_match [(2, ((a0 : Nat) : Int)), (0, a1), (0, a2), (0, a3)] h (none, r) := zMt.of (by decide) (Nat.le_of_ble_eq_true rfl) (b_Mo_match_0 a0 a1 a2 a3 h r hf)
theorem b_Mo_search_65 (c18 : Nat → Int → Int → Int → zH → Option (zH)) (k18 : ∀ (x0 : Nat) (x1 : Int) (x2 : Int) (x4 : Int) (g : zH) (r : zH), c18 x0 x1 x2 x4 g = some r → zK m_Mo_search 18 [(0, (2, ((x0 : Nat) : Int))), (1, (0, x1)), (2, (0, x2)), (4, (0, x4))] [] g (none, r)) (a0 : Nat) (a1 : Int) (a2 : Int) (a4 : Int) (s0 : Nat) (s1 : Int) (h : zH) (r : zH) (hf : f_Mo_search_65 c18 a0 a1 a2 a4 s0 s1 h = some r) : zK m_Mo_search 65 [(0, (2, ((a0 : Nat) : Int))), (1, (0, a1)), (2, (0, a2)), (4, (0, a4))] [(0, s1), (2, ((s0 : Nat) : Int))] h (none, r) := by
  unfold f_Mo_search_65 at hf
  obtain ⟨h1, e_h1, hf⟩ := z_bd hf
  refine k_putI (pc := 65) d_Mo_search_65 fd_Mo_194 (fun q => by cases q) rfl e_h1 ?_
  refine k_iinc (pc := 68) (L' := [(4, (0, zw (a4 + 1))), (0, (2, ((a0 : Nat) : Int))), (1, (0, a1)), (2, (0, a2))]) z_m3 d_Mo_search_68 (Nat.le_of_ble_eq_true rfl) rfl ?_
  refine k_goto (pc := 71) (tgt := 18) d_Mo_search_71 rfl ?_
  refine k_sub [1, 2, 3, 0] rfl ?_
  exact k18 a0 a1 a2 (zw (a4 + 1)) h1 _ hf
theorem b_Mo_search_18 : ∀ (n : Nat) (a0 : Nat) (a1 : Int) (a2 : Int) (a4 : Int) (h : zH) (r : zH), f_Mo_search_18 n a0 a1 a2 a4 h = some r → zK m_Mo_search 18 [(0, (2, ((a0 : Nat) : Int))), (1, (0, a1)), (2, (0, a2)), (4, (0, a4))] [] h (none, r) := by
  intro n
  induction n with
  | zero =>
    intro a0 a1 a2 a4 h r hf
    cases hf
  | succ n ih =>
    intro a0 a1 a2 a4 h r hf
    unfold f_Mo_search_18 at hf
    refine k_iload (pc := 18) z_m3 d_Mo_search_18 ?_
    refine k_aload_n (pc := 20) rfl z_m0 d_Mo_search_20 ?_
    obtain ⟨v2, e_v2, hf⟩ := z_bd hf
    refine k_getR (pc := 21) d_Mo_search_21 fd_Mo_77 rfl e_v2 ?_
    refine k_iload_n (pc := 24) rfl z_m2 d_Mo_search_24 ?_
    obtain ⟨v3, e_v3, hf⟩ := z_bd hf
    refine k_iald (pc := 25) d_Mo_search_25 e_v3 ?_
    rcases z_it hf with ⟨w12, hf⟩ | ⟨w12, hf⟩
    · refine k_ic_gt_t (pc := 26) (tgt := 74) w12 d_Mo_search_26 rfl ?_
      cases hf
      exact k_ret (pc := 74) d_Mo_search_74 rfl
    · refine k_ic_gt_f (pc := 26) (tgt := 74) w12 d_Mo_search_26 rfl ?_
      refine k_aload_n (pc := 29) rfl z_m0 d_Mo_search_29 ?_
      obtain ⟨v4, e_v4, hf⟩ := z_bd hf
      refine k_getI (pc := 30) d_Mo_search_30 fd_Mo_194 rfl e_v4 ?_
      rcases z_it hf with ⟨w11, hf⟩ | ⟨w11, hf⟩
      · refine k_if_ge_t (pc := 33) (tgt := 74) w11 d_Mo_search_33 rfl ?_
        cases hf
        exact k_ret (pc := 74) d_Mo_search_74 rfl
      · refine k_if_ge_f (pc := 33) (tgt := 74) w11 d_Mo_search_33 rfl ?_
        refine k_aload_n (pc := 36) rfl z_m0 d_Mo_search_36 ?_
        obtain ⟨v5, e_v5, hf⟩ := z_bd hf
        refine k_getI (pc := 37) d_Mo_search_37 fd_Mo_169 rfl e_v5 ?_
        rcases z_it hf with ⟨w10, hf⟩ | ⟨w10, hf⟩
        · refine k_if_ne_f (pc := 40) (tgt := 74) w10 d_Mo_search_40 rfl ?_
          refine k_aload_n (pc := 43) rfl z_m0 d_Mo_search_43 ?_
          refine k_iload_n (pc := 44) rfl z_m1 d_Mo_search_44 ?_
          refine k_iload_n (pc := 45) rfl z_m2 d_Mo_search_45 ?_
          refine k_iload (pc := 46) z_m3 d_Mo_search_46 ?_
          obtain ⟨n6, e_n6, hf⟩ := z_bd hf
          obtain ⟨h7, e_h7, hf⟩ := z_bd hf
          refine k_callVv (pc := 48) (as := [(0, a1), (0, a2), (0, a4)]) (rest := []) d_Mo_search_48 cw_Mo_search_197 rfl (Nat.le_of_ble_eq_true rfl) (z_ck_of e_n6) (t_Mo_match e_h7) ?_
          refine k_aload_n (pc := 51) rfl z_m0 d_Mo_search_51 ?_
          refine k_aload_n (pc := 52) rfl z_m0 d_Mo_search_52 ?_
          obtain ⟨v8, e_v8, hf⟩ := z_bd hf
          refine k_getI (pc := 53) d_Mo_search_53 fd_Mo_191 rfl e_v8 ?_
          rcases z_it hf with ⟨w9, hf⟩ | ⟨w9, hf⟩
          · refine k_if_lt_t (pc := 56) (tgt := 64) w9 d_Mo_search_56 rfl ?_
            refine k_iconst (pc := 64) (zi_lit rfl) d_Mo_search_64 ?_
            exact b_Mo_search_65 (f_Mo_search_18 n) ih a0 a1 a2 a4 a0 (-1) h7 _ hf
          · refine k_if_lt_f (pc := 56) (tgt := 64) w9 d_Mo_search_56 rfl ?_
            refine k_iload (pc := 59) z_m3 d_Mo_search_59 ?_
            refine k_goto (pc := 61) (tgt := 65) d_Mo_search_61 rfl ?_
            exact b_Mo_search_65 (f_Mo_search_18 n) ih a0 a1 a2 a4 a0 a4 h7 _ hf
        · refine k_if_ne_t (pc := 40) (tgt := 74) w10 d_Mo_search_40 rfl ?_
          cases hf
          exact k_ret (pc := 74) d_Mo_search_74 rfl
theorem b_Mo_search_0 (a0 : Nat) (a1 : Int) (a2 : Int) (a3 : Int) (h : zH) (r : zH) (hf : f_Mo_search a0 a1 a2 a3 h = some r) : zK m_Mo_search 0 [(0, (2, ((a0 : Nat) : Int))), (1, (0, a1)), (2, (0, a2)), (3, (0, a3))] [] h (none, r) := by
  unfold f_Mo_search at hf
  refine k_aload_n (pc := 0) rfl z_m0 d_Mo_search_0 ?_
  refine k_iconst (pc := 1) (zi_lit rfl) d_Mo_search_1 ?_
  obtain ⟨h13, e_h13, hf⟩ := z_bd hf
  refine k_putI (pc := 2) d_Mo_search_2 fd_Mo_166 (fun q => by cases q) rfl e_h13 ?_
  refine k_aload_n (pc := 5) rfl z_m0 d_Mo_search_5 ?_
  refine k_iconst (pc := 6) (zi_lit rfl) d_Mo_search_6 ?_
  obtain ⟨h14, e_h14, hf⟩ := z_bd hf
  refine k_putZ (pc := 7) d_Mo_search_7 fd_Mo_169 (fun q => by cases q) rfl e_h14 ?_
  refine k_aload_n (pc := 10) rfl z_m0 d_Mo_search_10 ?_
  refine k_iconst (pc := 11) (zi_lit rfl) d_Mo_search_11 ?_
  obtain ⟨h15, e_h15, hf⟩ := z_bd hf
  refine k_putI (pc := 12) d_Mo_search_12 fd_Mo_194 (fun q => by cases q) rfl e_h15 ?_
  refine k_iload_n (pc := 15) rfl z_m3 d_Mo_search_15 ?_
  refine k_istore (pc := 16) (L' := [(4, (0, a3)), (0, (2, ((a0 : Nat) : Int))), (1, (0, a1)), (2, (0, a2)), (3, (0, a3))]) d_Mo_search_16 (Nat.le_of_ble_eq_true rfl) rfl ?_
  refine k_sub [1, 2, 3, 0] rfl ?_
  exact b_Mo_search_18 100000 a0 a1 a2 a3 h15 _ hf
theorem t_Mo_search {a0 : Nat} {a1 : Int} {a2 : Int} {a3 : Int} {h : zH} {r : zH} (hf : f_Mo_search a0 a1 a2 a3 h = some r) : zMt m_Mo_search [(2, ((a0 : Nat) : Int)), (0, a1), (0, a2), (0, a3)] h (none, r) := zMt.of (by decide) (Nat.le_of_ble_eq_true rfl) (b_Mo_search_0 a0 a1 a2 a3 h r hf)
theorem b_Mo_copyState_78 (c47 : Nat → Int → Int → Int → zH → Option (zH)) (k47 : ∀ (x0 : Nat) (x1 : Int) (x2 : Int) (x3 : Int) (g : zH) (r : zH), c47 x0 x1 x2 x3 g = some r → zK m_Mo_copyState 47 [(0, (2, ((x0 : Nat) : Int))), (1, (0, x1)), (2, (0, x2)), (3, (0, x3))] [] g (none, r)) : ∀ (n : Nat) (a0 : Nat) (a1 : Int) (a2 : Int) (a3 : Int) (a4 : Int) (h : zH) (r : zH), f_Mo_copyState_78 c47 n a0 a1 a2 a3 a4 h = some r → zK m_Mo_copyState 78 [(0, (2, ((a0 : Nat) : Int))), (1, (0, a1)), (2, (0, a2)), (3, (0, a3)), (4, (0, a4))] [] h (none, r) := by
  intro n
  induction n with
  | zero =>
    intro a0 a1 a2 a3 a4 h r hf
    cases hf
  | succ n ih =>
    intro a0 a1 a2 a3 a4 h r hf
    unfold f_Mo_copyState_78 at hf
    refine k_iload (pc := 78) z_m4 d_Mo_copyState_78 ?_
    refine k_bipush (pc := 80) (zi_lit rfl) (by decide) d_Mo_copyState_80 ?_
    rcases z_it hf with ⟨w5, hf⟩ | ⟨w5, hf⟩
    · refine k_ic_ge_t (pc := 82) (tgt := 127) w5 d_Mo_copyState_82 rfl ?_
      refine k_iinc (pc := 127) (L' := [(3, (0, zw (a3 + 1))), (0, (2, ((a0 : Nat) : Int))), (1, (0, a1)), (2, (0, a2)), (4, (0, a4))]) z_m3 d_Mo_copyState_127 (Nat.le_of_ble_eq_true rfl) rfl ?_
      refine k_goto (pc := 130) (tgt := 47) d_Mo_copyState_130 rfl ?_
      refine k_sub [1, 2, 3, 0] rfl ?_
      exact k47 a0 a1 a2 (zw (a3 + 1)) h _ hf
    · refine k_ic_ge_f (pc := 82) (tgt := 127) w5 d_Mo_copyState_82 rfl ?_
      refine k_aload_n (pc := 85) rfl z_m0 d_Mo_copyState_85 ?_
      obtain ⟨v1, e_v1, hf⟩ := z_bd hf
      refine k_getR (pc := 86) d_Mo_copyState_86 fd_Mo_107 rfl e_v1 ?_
      refine k_sipush (pc := 89) (zi_lit rfl) (by decide) d_Mo_copyState_89 ?_
      refine k_iload_n (pc := 92) rfl z_m2 d_Mo_copyState_92 ?_
      refine k_imul (pc := 93) d_Mo_copyState_93 ?_
      refine k_bipush (pc := 94) (zi_lit rfl) (by decide) d_Mo_copyState_94 ?_
      refine k_iload_n (pc := 96) rfl z_m3 d_Mo_copyState_96 ?_
      refine k_imul (pc := 97) d_Mo_copyState_97 ?_
      refine k_iadd (pc := 98) d_Mo_copyState_98 ?_
      refine k_iload (pc := 99) z_m4 d_Mo_copyState_99 ?_
      refine k_iadd (pc := 101) d_Mo_copyState_101 ?_
      refine k_aload_n (pc := 102) rfl z_m0 d_Mo_copyState_102 ?_
      obtain ⟨v2, e_v2, hf⟩ := z_bd hf
      refine k_getR (pc := 103) d_Mo_copyState_103 fd_Mo_107 rfl e_v2 ?_
      refine k_sipush (pc := 106) (zi_lit rfl) (by decide) d_Mo_copyState_106 ?_
      refine k_iload_n (pc := 109) rfl z_m1 d_Mo_copyState_109 ?_
      refine k_imul (pc := 110) d_Mo_copyState_110 ?_
      refine k_bipush (pc := 111) (zi_lit rfl) (by decide) d_Mo_copyState_111 ?_
      refine k_iload_n (pc := 113) rfl z_m3 d_Mo_copyState_113 ?_
      refine k_imul (pc := 114) d_Mo_copyState_114 ?_
      refine k_iadd (pc := 115) d_Mo_copyState_115 ?_
      refine k_iload (pc := 116) z_m4 d_Mo_copyState_116 ?_
      refine k_iadd (pc := 118) d_Mo_copyState_118 ?_
      obtain ⟨v3, e_v3, hf⟩ := z_bd hf
      refine k_iald (pc := 119) d_Mo_copyState_119 e_v3 ?_
      obtain ⟨h4, e_h4, hf⟩ := z_bd hf
      refine k_iast (pc := 120) d_Mo_copyState_120 e_h4 ?_
      refine k_iinc (pc := 121) (L' := [(4, (0, zw (a4 + 1))), (0, (2, ((a0 : Nat) : Int))), (1, (0, a1)), (2, (0, a2)), (3, (0, a3))]) z_m4 d_Mo_copyState_121 (Nat.le_of_ble_eq_true rfl) rfl ?_
      refine k_goto (pc := 124) (tgt := 78) d_Mo_copyState_124 rfl ?_
      refine k_sub [1, 2, 3, 4, 0] rfl ?_
      exact ih a0 a1 a2 a3 (zw (a4 + 1)) h4 _ hf
theorem b_Mo_copyState_47 : ∀ (n : Nat) (a0 : Nat) (a1 : Int) (a2 : Int) (a3 : Int) (h : zH) (r : zH), f_Mo_copyState_47 n a0 a1 a2 a3 h = some r → zK m_Mo_copyState 47 [(0, (2, ((a0 : Nat) : Int))), (1, (0, a1)), (2, (0, a2)), (3, (0, a3))] [] h (none, r) := by
  intro n
  induction n with
  | zero =>
    intro a0 a1 a2 a3 h r hf
    cases hf
  | succ n ih =>
    intro a0 a1 a2 a3 h r hf
    unfold f_Mo_copyState_47 at hf
    refine k_iload_n (pc := 47) rfl z_m3 d_Mo_copyState_47 ?_
    refine k_bipush (pc := 48) (zi_lit rfl) (by decide) d_Mo_copyState_48 ?_
    rcases z_it hf with ⟨w10, hf⟩ | ⟨w10, hf⟩
    · refine k_ic_ge_t (pc := 50) (tgt := 133) w10 d_Mo_copyState_50 rfl ?_
      cases hf
      exact k_ret (pc := 133) d_Mo_copyState_133 rfl
    · refine k_ic_ge_f (pc := 50) (tgt := 133) w10 d_Mo_copyState_50 rfl ?_
      refine k_aload_n (pc := 53) rfl z_m0 d_Mo_copyState_53 ?_
      obtain ⟨v6, e_v6, hf⟩ := z_bd hf
      refine k_getR (pc := 54) d_Mo_copyState_54 fd_Mo_104 rfl e_v6 ?_
      refine k_bipush (pc := 57) (zi_lit rfl) (by decide) d_Mo_copyState_57 ?_
      refine k_iload_n (pc := 59) rfl z_m2 d_Mo_copyState_59 ?_
      refine k_imul (pc := 60) d_Mo_copyState_60 ?_
      refine k_iload_n (pc := 61) rfl z_m3 d_Mo_copyState_61 ?_
      refine k_iadd (pc := 62) d_Mo_copyState_62 ?_
      refine k_aload_n (pc := 63) rfl z_m0 d_Mo_copyState_63 ?_
      obtain ⟨v7, e_v7, hf⟩ := z_bd hf
      refine k_getR (pc := 64) d_Mo_copyState_64 fd_Mo_104 rfl e_v7 ?_
      refine k_bipush (pc := 67) (zi_lit rfl) (by decide) d_Mo_copyState_67 ?_
      refine k_iload_n (pc := 69) rfl z_m1 d_Mo_copyState_69 ?_
      refine k_imul (pc := 70) d_Mo_copyState_70 ?_
      refine k_iload_n (pc := 71) rfl z_m3 d_Mo_copyState_71 ?_
      refine k_iadd (pc := 72) d_Mo_copyState_72 ?_
      obtain ⟨v8, e_v8, hf⟩ := z_bd hf
      refine k_iald (pc := 73) d_Mo_copyState_73 e_v8 ?_
      obtain ⟨h9, e_h9, hf⟩ := z_bd hf
      refine k_iast (pc := 74) d_Mo_copyState_74 e_h9 ?_
      refine k_iconst (pc := 75) (zi_lit rfl) d_Mo_copyState_75 ?_
      refine k_istore (pc := 76) (L' := [(4, (0, 0)), (0, (2, ((a0 : Nat) : Int))), (1, (0, a1)), (2, (0, a2)), (3, (0, a3))]) d_Mo_copyState_76 (Nat.le_of_ble_eq_true rfl) rfl ?_
      refine k_sub [1, 2, 3, 4, 0] rfl ?_
      exact b_Mo_copyState_78 (f_Mo_copyState_47 n) ih 100000 a0 a1 a2 a3 0 h9 _ hf
theorem b_Mo_copyState_14 : ∀ (n : Nat) (a0 : Nat) (a1 : Int) (a2 : Int) (a3 : Int) (h : zH) (r : zH), f_Mo_copyState_14 n a0 a1 a2 a3 h = some r → zK m_Mo_copyState 14 [(0, (2, ((a0 : Nat) : Int))), (1, (0, a1)), (2, (0, a2)), (3, (0, a3))] [] h (none, r) := by
  intro n
  induction n with
  | zero =>
    intro a0 a1 a2 a3 h r hf
    cases hf
  | succ n ih =>
    intro a0 a1 a2 a3 h r hf
    unfold f_Mo_copyState_14 at hf
    refine k_iload_n (pc := 14) rfl z_m3 d_Mo_copyState_14 ?_
    refine k_iconst (pc := 15) (zi_lit rfl) d_Mo_copyState_15 ?_
    rcases z_it hf with ⟨w15, hf⟩ | ⟨w15, hf⟩
    · refine k_ic_ge_t (pc := 16) (tgt := 45) w15 d_Mo_copyState_16 rfl ?_
      refine k_iconst (pc := 45) (zi_lit rfl) d_Mo_copyState_45 ?_
      refine k_istore_n (pc := 46) (L' := [(3, (0, 0)), (0, (2, ((a0 : Nat) : Int))), (1, (0, a1)), (2, (0, a2))]) rfl d_Mo_copyState_46 (Nat.le_of_ble_eq_true rfl) rfl ?_
      refine k_sub [1, 2, 3, 0] rfl ?_
      exact b_Mo_copyState_47 100000 a0 a1 a2 0 h _ hf
    · refine k_ic_ge_f (pc := 16) (tgt := 45) w15 d_Mo_copyState_16 rfl ?_
      refine k_aload_n (pc := 19) rfl z_m0 d_Mo_copyState_19 ?_
      obtain ⟨v11, e_v11, hf⟩ := z_bd hf
      refine k_getR (pc := 20) d_Mo_copyState_20 fd_Mo_101 rfl e_v11 ?_
      refine k_iconst (pc := 23) (zi_lit rfl) d_Mo_copyState_23 ?_
      refine k_iload_n (pc := 24) rfl z_m2 d_Mo_copyState_24 ?_
      refine k_imul (pc := 25) d_Mo_copyState_25 ?_
      refine k_iload_n (pc := 26) rfl z_m3 d_Mo_copyState_26 ?_
      refine k_iadd (pc := 27) d_Mo_copyState_27 ?_
      refine k_aload_n (pc := 28) rfl z_m0 d_Mo_copyState_28 ?_
      obtain ⟨v12, e_v12, hf⟩ := z_bd hf
      refine k_getR (pc := 29) d_Mo_copyState_29 fd_Mo_101 rfl e_v12 ?_
      refine k_iconst (pc := 32) (zi_lit rfl) d_Mo_copyState_32 ?_
      refine k_iload_n (pc := 33) rfl z_m1 d_Mo_copyState_33 ?_
      refine k_imul (pc := 34) d_Mo_copyState_34 ?_
      refine k_iload_n (pc := 35) rfl z_m3 d_Mo_copyState_35 ?_
      refine k_iadd (pc := 36) d_Mo_copyState_36 ?_
      obtain ⟨v13, e_v13, hf⟩ := z_bd hf
      refine k_iald (pc := 37) d_Mo_copyState_37 e_v13 ?_
      obtain ⟨h14, e_h14, hf⟩ := z_bd hf
      refine k_iast (pc := 38) d_Mo_copyState_38 e_h14 ?_
      refine k_iinc (pc := 39) (L' := [(3, (0, zw (a3 + 1))), (0, (2, ((a0 : Nat) : Int))), (1, (0, a1)), (2, (0, a2))]) z_m3 d_Mo_copyState_39 (Nat.le_of_ble_eq_true rfl) rfl ?_
      refine k_goto (pc := 42) (tgt := 14) d_Mo_copyState_42 rfl ?_
      refine k_sub [1, 2, 3, 0] rfl ?_
      exact ih a0 a1 a2 (zw (a3 + 1)) h14 _ hf
theorem b_Mo_copyState_0 (a0 : Nat) (a1 : Int) (a2 : Int) (h : zH) (r : zH) (hf : f_Mo_copyState a0 a1 a2 h = some r) : zK m_Mo_copyState 0 [(0, (2, ((a0 : Nat) : Int))), (1, (0, a1)), (2, (0, a2))] [] h (none, r) := by
  unfold f_Mo_copyState at hf
  refine k_aload_n (pc := 0) rfl z_m0 d_Mo_copyState_0 ?_
  obtain ⟨v16, e_v16, hf⟩ := z_bd hf
  refine k_getR (pc := 1) d_Mo_copyState_1 fd_Mo_98 rfl e_v16 ?_
  refine k_iload_n (pc := 4) rfl z_m2 d_Mo_copyState_4 ?_
  refine k_aload_n (pc := 5) rfl z_m0 d_Mo_copyState_5 ?_
  obtain ⟨v17, e_v17, hf⟩ := z_bd hf
  refine k_getR (pc := 6) d_Mo_copyState_6 fd_Mo_98 rfl e_v17 ?_
  refine k_iload_n (pc := 9) rfl z_m1 d_Mo_copyState_9 ?_
  obtain ⟨v18, e_v18, hf⟩ := z_bd hf
  refine k_iald (pc := 10) d_Mo_copyState_10 e_v18 ?_
  obtain ⟨h19, e_h19, hf⟩ := z_bd hf
  refine k_iast (pc := 11) d_Mo_copyState_11 e_h19 ?_
  refine k_iconst (pc := 12) (zi_lit rfl) d_Mo_copyState_12 ?_
  refine k_istore_n (pc := 13) (L' := [(3, (0, 0)), (0, (2, ((a0 : Nat) : Int))), (1, (0, a1)), (2, (0, a2))]) rfl d_Mo_copyState_13 (Nat.le_of_ble_eq_true rfl) rfl ?_
  refine k_sub [1, 2, 3, 0] rfl ?_
  exact b_Mo_copyState_14 100000 a0 a1 a2 0 h19 _ hf
theorem t_Mo_copyState {a0 : Nat} {a1 : Int} {a2 : Int} {h : zH} {r : zH} (hf : f_Mo_copyState a0 a1 a2 h = some r) : zMt m_Mo_copyState [(2, ((a0 : Nat) : Int)), (0, a1), (0, a2)] h (none, r) := zMt.of (by decide) (Nat.le_of_ble_eq_true rfl) (b_Mo_copyState_0 a0 a1 a2 h r hf)
theorem b_Mo_sameState_92 (c19 : Nat → Int → Int → Int → zH → Option (Int × zH)) (k19 : ∀ (x0 : Nat) (x1 : Int) (x2 : Int) (x3 : Int) (g : zH) (r : Int × zH), c19 x0 x1 x2 x3 g = some r → zK m_Mo_sameState 19 [(0, (2, ((x0 : Nat) : Int))), (1, (0, x1)), (2, (0, x2)), (3, (0, x3))] [] g (some (0, r.1), r.2)) : ∀ (n : Nat) (a0 : Nat) (a1 : Int) (a2 : Int) (a3 : Int) (a4 : Int) (a5 : Int) (h : zH) (r : Int × zH), f_Mo_sameState_92 c19 n a0 a1 a2 a3 a4 a5 h = some r → zK m_Mo_sameState 92 [(0, (2, ((a0 : Nat) : Int))), (1, (0, a1)), (2, (0, a2)), (3, (0, a3)), (4, (0, a4)), (5, (0, a5))] [] h (some (0, r.1), r.2) := by
  intro n
  induction n with
  | zero =>
    intro a0 a1 a2 a3 a4 a5 h r hf
    cases hf
  | succ n ih =>
    intro a0 a1 a2 a3 a4 a5 h r hf
    unfold f_Mo_sameState_92 at hf
    refine k_iload (pc := 92) z_m5 d_Mo_sameState_92 ?_
    refine k_iload (pc := 94) z_m4 d_Mo_sameState_94 ?_
    rcases z_it hf with ⟨w6, hf⟩ | ⟨w6, hf⟩
    · refine k_ic_ge_t (pc := 96) (tgt := 146) w6 d_Mo_sameState_96 rfl ?_
      refine k_iinc (pc := 146) (L' := [(3, (0, zw (a3 + 1))), (0, (2, ((a0 : Nat) : Int))), (1, (0, a1)), (2, (0, a2)), (4, (0, a4)), (5, (0, a5))]) z_m3 d_Mo_sameState_146 (Nat.le_of_ble_eq_true rfl) rfl ?_
      refine k_goto (pc := 149) (tgt := 19) d_Mo_sameState_149 rfl ?_
      refine k_sub [1, 2, 3, 0] rfl ?_
      exact k19 a0 a1 a2 (zw (a3 + 1)) h _ hf
    · refine k_ic_ge_f (pc := 96) (tgt := 146) w6 d_Mo_sameState_96 rfl ?_
      refine k_aload_n (pc := 99) rfl z_m0 d_Mo_sameState_99 ?_
      obtain ⟨v1, e_v1, hf⟩ := z_bd hf
      refine k_getR (pc := 100) d_Mo_sameState_100 fd_Mo_107 rfl e_v1 ?_
      refine k_sipush (pc := 103) (zi_lit rfl) (by decide) d_Mo_sameState_103 ?_
      refine k_iload_n (pc := 106) rfl z_m1 d_Mo_sameState_106 ?_
      refine k_imul (pc := 107) d_Mo_sameState_107 ?_
      refine k_bipush (pc := 108) (zi_lit rfl) (by decide) d_Mo_sameState_108 ?_
      refine k_iload_n (pc := 110) rfl z_m3 d_Mo_sameState_110 ?_
      refine k_imul (pc := 111) d_Mo_sameState_111 ?_
      refine k_iadd (pc := 112) d_Mo_sameState_112 ?_
      refine k_iload (pc := 113) z_m5 d_Mo_sameState_113 ?_
      refine k_iadd (pc := 115) d_Mo_sameState_115 ?_
      obtain ⟨v2, e_v2, hf⟩ := z_bd hf
      refine k_iald (pc := 116) d_Mo_sameState_116 e_v2 ?_
      refine k_aload_n (pc := 117) rfl z_m0 d_Mo_sameState_117 ?_
      obtain ⟨v3, e_v3, hf⟩ := z_bd hf
      refine k_getR (pc := 118) d_Mo_sameState_118 fd_Mo_107 rfl e_v3 ?_
      refine k_sipush (pc := 121) (zi_lit rfl) (by decide) d_Mo_sameState_121 ?_
      refine k_iload_n (pc := 124) rfl z_m2 d_Mo_sameState_124 ?_
      refine k_imul (pc := 125) d_Mo_sameState_125 ?_
      refine k_bipush (pc := 126) (zi_lit rfl) (by decide) d_Mo_sameState_126 ?_
      refine k_iload_n (pc := 128) rfl z_m3 d_Mo_sameState_128 ?_
      refine k_imul (pc := 129) d_Mo_sameState_129 ?_
      refine k_iadd (pc := 130) d_Mo_sameState_130 ?_
      refine k_iload (pc := 131) z_m5 d_Mo_sameState_131 ?_
      refine k_iadd (pc := 133) d_Mo_sameState_133 ?_
      obtain ⟨v4, e_v4, hf⟩ := z_bd hf
      refine k_iald (pc := 134) d_Mo_sameState_134 e_v4 ?_
      rcases z_it hf with ⟨w5, hf⟩ | ⟨w5, hf⟩
      · refine k_ic_eq_t (pc := 135) (tgt := 140) w5 d_Mo_sameState_135 rfl ?_
        refine k_iinc (pc := 140) (L' := [(5, (0, zw (a5 + 1))), (0, (2, ((a0 : Nat) : Int))), (1, (0, a1)), (2, (0, a2)), (3, (0, a3)), (4, (0, a4))]) z_m5 d_Mo_sameState_140 (Nat.le_of_ble_eq_true rfl) rfl ?_
        refine k_goto (pc := 143) (tgt := 92) d_Mo_sameState_143 rfl ?_
        refine k_sub [1, 2, 3, 4, 5, 0] rfl ?_
        exact ih a0 a1 a2 a3 a4 (zw (a5 + 1)) h _ hf
      · refine k_ic_eq_f (pc := 135) (tgt := 140) w5 d_Mo_sameState_135 rfl ?_
        refine k_iconst (pc := 138) (zi_lit rfl) d_Mo_sameState_138 ?_
        cases hf
        exact k_zret (pc := 139) d_Mo_sameState_139 rfl (Or.inl rfl)
theorem b_Mo_sameState_19 : ∀ (n : Nat) (a0 : Nat) (a1 : Int) (a2 : Int) (a3 : Int) (h : zH) (r : Int × zH), f_Mo_sameState_19 n a0 a1 a2 a3 h = some r → zK m_Mo_sameState 19 [(0, (2, ((a0 : Nat) : Int))), (1, (0, a1)), (2, (0, a2)), (3, (0, a3))] [] h (some (0, r.1), r.2) := by
  intro n
  induction n with
  | zero =>
    intro a0 a1 a2 a3 h r hf
    cases hf
  | succ n ih =>
    intro a0 a1 a2 a3 h r hf
    unfold f_Mo_sameState_19 at hf
    refine k_iload_n (pc := 19) rfl z_m3 d_Mo_sameState_19 ?_
    refine k_iconst (pc := 20) (zi_lit rfl) d_Mo_sameState_20 ?_
    refine k_aload_n (pc := 21) rfl z_m0 d_Mo_sameState_21 ?_
    obtain ⟨v7, e_v7, hf⟩ := z_bd hf
    refine k_getR (pc := 22) d_Mo_sameState_22 fd_Mo_98 rfl e_v7 ?_
    refine k_iload_n (pc := 25) rfl z_m1 d_Mo_sameState_25 ?_
    obtain ⟨v8, e_v8, hf⟩ := z_bd hf
    refine k_iald (pc := 26) d_Mo_sameState_26 e_v8 ?_
    refine k_imul (pc := 27) d_Mo_sameState_27 ?_
    rcases z_it hf with ⟨w19, hf⟩ | ⟨w19, hf⟩
    · refine k_ic_ge_t (pc := 28) (tgt := 152) w19 d_Mo_sameState_28 rfl ?_
      refine k_iconst (pc := 152) (zi_lit rfl) d_Mo_sameState_152 ?_
      cases hf
      exact k_zret (pc := 153) d_Mo_sameState_153 rfl (Or.inr rfl)
    · refine k_ic_ge_f (pc := 28) (tgt := 152) w19 d_Mo_sameState_28 rfl ?_
      refine k_aload_n (pc := 31) rfl z_m0 d_Mo_sameState_31 ?_
      obtain ⟨v9, e_v9, hf⟩ := z_bd hf
      refine k_getR (pc := 32) d_Mo_sameState_32 fd_Mo_104 rfl e_v9 ?_
      refine k_bipush (pc := 35) (zi_lit rfl) (by decide) d_Mo_sameState_35 ?_
      refine k_iload_n (pc := 37) rfl z_m1 d_Mo_sameState_37 ?_
      refine k_imul (pc := 38) d_Mo_sameState_38 ?_
      refine k_iload_n (pc := 39) rfl z_m3 d_Mo_sameState_39 ?_
      refine k_iadd (pc := 40) d_Mo_sameState_40 ?_
      obtain ⟨v10, e_v10, hf⟩ := z_bd hf
      refine k_iald (pc := 41) d_Mo_sameState_41 e_v10 ?_
      refine k_istore (pc := 42) (L' := [(4, (0, v10)), (0, (2, ((a0 : Nat) : Int))), (1, (0, a1)), (2, (0, a2)), (3, (0, a3))]) d_Mo_sameState_42 (Nat.le_of_ble_eq_true rfl) rfl ?_
      refine k_aload_n (pc := 44) rfl z_m1 d_Mo_sameState_44 ?_
      obtain ⟨v11, e_v11, hf⟩ := z_bd hf
      refine k_getR (pc := 45) d_Mo_sameState_45 fd_Mo_101 rfl e_v11 ?_
      refine k_iconst (pc := 48) (zi_lit rfl) d_Mo_sameState_48 ?_
      refine k_iload_n (pc := 49) rfl z_m2 d_Mo_sameState_49 ?_
      refine k_imul (pc := 50) d_Mo_sameState_50 ?_
      refine k_iload_n (pc := 51) rfl z_m4 d_Mo_sameState_51 ?_
      refine k_iconst (pc := 52) (zi_lit rfl) d_Mo_sameState_52 ?_
      refine k_idiv (pc := 53) (by decide) d_Mo_sameState_53 ?_
      refine k_iadd (pc := 54) d_Mo_sameState_54 ?_
      obtain ⟨v12, e_v12, hf⟩ := z_bd hf
      refine k_iald (pc := 55) d_Mo_sameState_55 e_v12 ?_
      refine k_aload_n (pc := 56) rfl z_m1 d_Mo_sameState_56 ?_
      obtain ⟨v13, e_v13, hf⟩ := z_bd hf
      refine k_getR (pc := 57) d_Mo_sameState_57 fd_Mo_101 rfl e_v13 ?_
      refine k_iconst (pc := 60) (zi_lit rfl) d_Mo_sameState_60 ?_
      refine k_iload_n (pc := 61) rfl z_m3 d_Mo_sameState_61 ?_
      refine k_imul (pc := 62) d_Mo_sameState_62 ?_
      refine k_iload_n (pc := 63) rfl z_m4 d_Mo_sameState_63 ?_
      refine k_iconst (pc := 64) (zi_lit rfl) d_Mo_sameState_64 ?_
      refine k_idiv (pc := 65) (by decide) d_Mo_sameState_65 ?_
      refine k_iadd (pc := 66) d_Mo_sameState_66 ?_
      obtain ⟨v14, e_v14, hf⟩ := z_bd hf
      refine k_iald (pc := 67) d_Mo_sameState_67 e_v14 ?_
      rcases z_it hf with ⟨w18, hf⟩ | ⟨w18, hf⟩
      · refine k_ic_ne_f (pc := 68) (tgt := 87) w18 d_Mo_sameState_68 rfl ?_
        refine k_iload (pc := 71) z_m0 d_Mo_sameState_71 ?_
        refine k_aload_n (pc := 73) rfl z_m1 d_Mo_sameState_73 ?_
        obtain ⟨v15, e_v15, hf⟩ := z_bd hf
        refine k_getR (pc := 74) d_Mo_sameState_74 fd_Mo_104 rfl e_v15 ?_
        refine k_bipush (pc := 77) (zi_lit rfl) (by decide) d_Mo_sameState_77 ?_
        refine k_iload_n (pc := 79) rfl z_m3 d_Mo_sameState_79 ?_
        refine k_imul (pc := 80) d_Mo_sameState_80 ?_
        refine k_iload_n (pc := 81) rfl z_m4 d_Mo_sameState_81 ?_
        refine k_iadd (pc := 82) d_Mo_sameState_82 ?_
        obtain ⟨v16, e_v16, hf⟩ := z_bd hf
        refine k_iald (pc := 83) d_Mo_sameState_83 e_v16 ?_
        rcases z_it hf with ⟨w17, hf⟩ | ⟨w17, hf⟩
        · refine k_ic_eq_t (pc := 84) (tgt := 89) w17 d_Mo_sameState_84 rfl ?_
          refine k_iconst (pc := 89) (zi_lit rfl) d_Mo_sameState_89 ?_
          refine k_istore (pc := 90) (L' := [(5, (0, 0)), (4, (0, v10)), (0, (2, ((a0 : Nat) : Int))), (1, (0, a1)), (2, (0, a2)), (3, (0, a3))]) d_Mo_sameState_90 (Nat.le_of_ble_eq_true rfl) rfl ?_
          refine k_sub [2, 3, 4, 5, 1, 0] rfl ?_
          exact b_Mo_sameState_92 (f_Mo_sameState_19 n) ih 100000 a0 a1 a2 a3 v10 0 h _ hf
        · refine k_ic_eq_f (pc := 84) (tgt := 89) w17 d_Mo_sameState_84 rfl ?_
          refine k_iconst (pc := 87) (zi_lit rfl) d_Mo_sameState_87 ?_
          cases hf
          exact k_zret (pc := 88) d_Mo_sameState_88 rfl (Or.inl rfl)
      · refine k_ic_ne_t (pc := 68) (tgt := 87) w18 d_Mo_sameState_68 rfl ?_
        refine k_iconst (pc := 87) (zi_lit rfl) d_Mo_sameState_87 ?_
        cases hf
        exact k_zret (pc := 88) d_Mo_sameState_88 rfl (Or.inl rfl)
theorem b_Mo_sameState_0 (a0 : Nat) (a1 : Int) (a2 : Int) (h : zH) (r : Int × zH) (hf : f_Mo_sameState a0 a1 a2 h = some r) : zK m_Mo_sameState 0 [(0, (2, ((a0 : Nat) : Int))), (1, (0, a1)), (2, (0, a2))] [] h (some (0, r.1), r.2) := by
  unfold f_Mo_sameState at hf
  refine k_aload_n (pc := 0) rfl z_m0 d_Mo_sameState_0 ?_
  obtain ⟨v20, e_v20, hf⟩ := z_bd hf
  refine k_getR (pc := 1) d_Mo_sameState_1 fd_Mo_98 rfl e_v20 ?_
  refine k_iload_n (pc := 4) rfl z_m1 d_Mo_sameState_4 ?_
  obtain ⟨v21, e_v21, hf⟩ := z_bd hf
  refine k_iald (pc := 5) d_Mo_sameState_5 e_v21 ?_
  refine k_aload_n (pc := 6) rfl z_m0 d_Mo_sameState_6 ?_
  obtain ⟨v22, e_v22, hf⟩ := z_bd hf
  refine k_getR (pc := 7) d_Mo_sameState_7 fd_Mo_98 rfl e_v22 ?_
  refine k_iload_n (pc := 10) rfl z_m2 d_Mo_sameState_10 ?_
  obtain ⟨v23, e_v23, hf⟩ := z_bd hf
  refine k_iald (pc := 11) d_Mo_sameState_11 e_v23 ?_
  rcases z_it hf with ⟨w24, hf⟩ | ⟨w24, hf⟩
  · refine k_ic_eq_t (pc := 12) (tgt := 17) w24 d_Mo_sameState_12 rfl ?_
    refine k_iconst (pc := 17) (zi_lit rfl) d_Mo_sameState_17 ?_
    refine k_istore_n (pc := 18) (L' := [(3, (0, 0)), (0, (2, ((a0 : Nat) : Int))), (1, (0, a1)), (2, (0, a2))]) rfl d_Mo_sameState_18 (Nat.le_of_ble_eq_true rfl) rfl ?_
    refine k_sub [1, 2, 3, 0] rfl ?_
    exact b_Mo_sameState_19 100000 a0 a1 a2 0 h _ hf
  · refine k_ic_eq_f (pc := 12) (tgt := 17) w24 d_Mo_sameState_12 rfl ?_
    refine k_iconst (pc := 15) (zi_lit rfl) d_Mo_sameState_15 ?_
    cases hf
    exact k_zret (pc := 16) d_Mo_sameState_16 rfl (Or.inl rfl)
theorem t_Mo_sameState {a0 : Nat} {a1 : Int} {a2 : Int} {h : zH} {r : Int × zH} (hf : f_Mo_sameState a0 a1 a2 h = some r) : zMt m_Mo_sameState [(2, ((a0 : Nat) : Int)), (0, a1), (0, a2)] h (some (0, r.1), r.2) := zMt.of (by decide) (Nat.le_of_ble_eq_true rfl) (b_Mo_sameState_0 a0 a1 a2 h r hf)
theorem b_Mo_begin_0 (a0 : Nat) (a1 : Int) (h : zH) (r : zH) (hf : f_Mo_begin a0 a1 h = some r) : zK m_Mo_begin 0 [(0, (2, ((a0 : Nat) : Int))), (1, (0, a1))] [] h (none, r) := by
  unfold f_Mo_begin at hf
  refine k_iload_n (pc := 0) rfl z_m1 d_Mo_begin_0 ?_
  rcases z_it hf with ⟨w5, hf⟩ | ⟨w5, hf⟩
  · refine k_if_ne_f (pc := 1) (tgt := 15) w5 d_Mo_begin_1 rfl ?_
    refine k_aload_n (pc := 4) rfl z_m0 d_Mo_begin_4 ?_
    obtain ⟨v3, e_v3, hf⟩ := z_bd hf
    refine k_getR (pc := 5) d_Mo_begin_5 fd_Mo_98 rfl e_v3 ?_
    refine k_bipush (pc := 8) (zi_lit rfl) (by decide) d_Mo_begin_8 ?_
    refine k_iconst (pc := 10) (zi_lit rfl) d_Mo_begin_10 ?_
    obtain ⟨h4, e_h4, hf⟩ := z_bd hf
    refine k_iast (pc := 11) d_Mo_begin_11 e_h4 ?_
    refine k_goto (pc := 12) (tgt := 24) d_Mo_begin_12 rfl ?_
    cases hf
    exact k_ret (pc := 24) d_Mo_begin_24 rfl
  · refine k_if_ne_t (pc := 1) (tgt := 15) w5 d_Mo_begin_1 rfl ?_
    refine k_aload_n (pc := 15) rfl z_m0 d_Mo_begin_15 ?_
    refine k_iload_n (pc := 16) rfl z_m1 d_Mo_begin_16 ?_
    refine k_iconst (pc := 17) (zi_lit rfl) d_Mo_begin_17 ?_
    refine k_isub (pc := 18) d_Mo_begin_18 ?_
    refine k_bipush (pc := 19) (zi_lit rfl) (by decide) d_Mo_begin_19 ?_
    obtain ⟨n1, e_n1, hf⟩ := z_bd hf
    obtain ⟨h2, e_h2, hf⟩ := z_bd hf
    refine k_callVv (pc := 21) (as := [(0, zw (a1 - 1)), (0, 6)]) (rest := []) d_Mo_begin_21 cw_Mo_begin_200 rfl (Nat.le_of_ble_eq_true rfl) (z_ck_of e_n1) (t_Mo_copyState e_h2) ?_
    cases hf
    exact k_ret (pc := 24) d_Mo_begin_24 rfl
theorem t_Mo_begin {a0 : Nat} {a1 : Int} {h : zH} {r : zH} (hf : f_Mo_begin a0 a1 h = some r) : zMt m_Mo_begin [(2, ((a0 : Nat) : Int)), (0, a1)] h (none, r) := zMt.of (by decide) (Nat.le_of_ble_eq_true rfl) (b_Mo_begin_0 a0 a1 h r hf)
theorem b_Mo_addRules_38 (c5 : Nat → Int → Int → Int → zH → Option (Int × zH)) (k5 : ∀ (x0 : Nat) (x2 : Int) (x3 : Int) (x4 : Int) (g : zH) (r : Int × zH), c5 x0 x2 x3 x4 g = some r → zK m_Mo_addRules 5 [(0, (2, ((x0 : Nat) : Int))), (2, (0, x2)), (3, (0, x3)), (4, (0, x4))] [] g (some (0, r.1), r.2)) (a0 : Nat) (a2 : Int) (a3 : Int) (a4 : Int) (h : zH) (r : Int × zH) (hf : f_Mo_addRules_38 c5 a0 a2 a3 a4 h = some r) : zK m_Mo_addRules 38 [(0, (2, ((a0 : Nat) : Int))), (2, (0, a2)), (3, (0, a3)), (4, (0, a4))] [] h (some (0, r.1), r.2) := by
  unfold f_Mo_addRules_38 at hf
  refine k_iinc (pc := 38) (L' := [(4, (0, zw (a4 + 1))), (0, (2, ((a0 : Nat) : Int))), (2, (0, a2)), (3, (0, a3))]) z_m3 d_Mo_addRules_38 (Nat.le_of_ble_eq_true rfl) rfl ?_
  refine k_goto (pc := 41) (tgt := 5) d_Mo_addRules_41 rfl ?_
  refine k_sub [1, 2, 3, 0] rfl ?_
  exact k5 a0 a2 a3 (zw (a4 + 1)) h _ hf
theorem b_Mo_addRules_5 : ∀ (n : Nat) (a0 : Nat) (a2 : Int) (a3 : Int) (a4 : Int) (h : zH) (r : Int × zH), f_Mo_addRules_5 n a0 a2 a3 a4 h = some r → zK m_Mo_addRules 5 [(0, (2, ((a0 : Nat) : Int))), (2, (0, a2)), (3, (0, a3)), (4, (0, a4))] [] h (some (0, r.1), r.2) := by
  intro n
  induction n with
  | zero =>
    intro a0 a2 a3 a4 h r hf
    cases hf
  | succ n ih =>
    intro a0 a2 a3 a4 h r hf
    unfold f_Mo_addRules_5 at hf
    refine k_iload (pc := 5) z_m3 d_Mo_addRules_5 ?_
    refine k_aload_n (pc := 7) rfl z_m0 d_Mo_addRules_7 ?_
    obtain ⟨v1, e_v1, hf⟩ := z_bd hf
    refine k_getI (pc := 8) d_Mo_addRules_8 fd_Mo_203 rfl e_v1 ?_
    rcases z_it hf with ⟨w7, hf⟩ | ⟨w7, hf⟩
    · refine k_ic_gt_t (pc := 11) (tgt := 44) w7 d_Mo_addRules_11 rfl ?_
      refine k_iload_n (pc := 44) rfl z_m2 d_Mo_addRules_44 ?_
      cases hf
      exact k_iret (pc := 45) d_Mo_addRules_45 rfl
    · refine k_ic_gt_f (pc := 11) (tgt := 44) w7 d_Mo_addRules_11 rfl ?_
      refine k_aload_n (pc := 14) rfl z_m0 d_Mo_addRules_14 ?_
      obtain ⟨v2, e_v2, hf⟩ := z_bd hf
      refine k_getR (pc := 15) d_Mo_addRules_15 fd_Mo_17 rfl e_v2 ?_
      refine k_iload (pc := 18) z_m3 d_Mo_addRules_18 ?_
      obtain ⟨v3, e_v3, hf⟩ := z_bd hf
      refine k_iald (pc := 20) d_Mo_addRules_20 e_v3 ?_
      refine k_iload_n (pc := 21) rfl z_m1 d_Mo_addRules_21 ?_
      rcases z_it hf with ⟨w6, hf⟩ | ⟨w6, hf⟩
      · refine k_ic_ne_f (pc := 22) (tgt := 38) w6 d_Mo_addRules_22 rfl ?_
        refine k_aload_n (pc := 25) rfl z_m0 d_Mo_addRules_25 ?_
        obtain ⟨v4, e_v4, hf⟩ := z_bd hf
        refine k_getR (pc := 26) d_Mo_addRules_26 fd_Mo_110 rfl e_v4 ?_
        refine k_iload_n (pc := 29) rfl z_m2 d_Mo_addRules_29 ?_
        refine k_iconst (pc := 30) (zi_lit rfl) d_Mo_addRules_30 ?_
        refine k_iload (pc := 31) z_m3 d_Mo_addRules_31 ?_
        refine k_imul (pc := 33) d_Mo_addRules_33 ?_
        obtain ⟨h5, e_h5, hf⟩ := z_bd hf
        refine k_iast (pc := 34) d_Mo_addRules_34 e_h5 ?_
        refine k_iinc (pc := 35) (L' := [(3, (0, zw (a3 + 1))), (0, (2, ((a0 : Nat) : Int))), (2, (0, a2)), (4, (0, a4))]) z_m2 d_Mo_addRules_35 (Nat.le_of_ble_eq_true rfl) rfl ?_
        refine k_sub [1, 2, 0, 3] rfl ?_
        exact b_Mo_addRules_38 (f_Mo_addRules_5 n) ih a0 a2 (zw (a3 + 1)) a4 h5 _ hf
      · refine k_ic_ne_t (pc := 22) (tgt := 38) w6 d_Mo_addRules_22 rfl ?_
        exact b_Mo_addRules_38 (f_Mo_addRules_5 n) ih a0 a2 a3 a4 h _ hf
theorem b_Mo_addRules_0 (a0 : Nat) (a1 : Int) (a2 : Int) (h : zH) (r : Int × zH) (hf : f_Mo_addRules a0 a1 a2 h = some r) : zK m_Mo_addRules 0 [(0, (2, ((a0 : Nat) : Int))), (1, (0, a1)), (2, (0, a2))] [] h (some (0, r.1), r.2) := by
  unfold f_Mo_addRules at hf
  refine k_iload_n (pc := 0) rfl z_m1 d_Mo_addRules_0 ?_
  refine k_istore_n (pc := 1) (L' := [(3, (0, a1)), (0, (2, ((a0 : Nat) : Int))), (1, (0, a1)), (2, (0, a2))]) rfl d_Mo_addRules_1 (Nat.le_of_ble_eq_true rfl) rfl ?_
  refine k_iconst (pc := 2) (zi_lit rfl) d_Mo_addRules_2 ?_
  refine k_istore (pc := 3) (L' := [(4, (0, 1)), (3, (0, a1)), (0, (2, ((a0 : Nat) : Int))), (1, (0, a1)), (2, (0, a2))]) d_Mo_addRules_3 (Nat.le_of_ble_eq_true rfl) rfl ?_
  refine k_sub [2, 4, 1, 0] rfl ?_
  exact b_Mo_addRules_5 100000 a0 a2 a1 1 h _ hf
theorem t_Mo_addRules {a0 : Nat} {a1 : Int} {a2 : Int} {h : zH} {r : Int × zH} (hf : f_Mo_addRules a0 a1 a2 h = some r) : zMt m_Mo_addRules [(2, ((a0 : Nat) : Int)), (0, a1), (0, a2)] h (some (0, r.1), r.2) := zMt.of (by decide) (Nat.le_of_ble_eq_true rfl) (b_Mo_addRules_0 a0 a1 a2 h r hf)
theorem b_Mo_gather_142 (a0 : Nat) (a1 : Int) (a2 : Int) (h : zH) (r : Int × zH) (hf : f_Mo_gather_142 a0 a1 a2 h = some r) : zK m_Mo_gather 142 [(0, (2, ((a0 : Nat) : Int))), (1, (0, a1)), (2, (0, a2))] [] h (some (0, r.1), r.2) := by
  unfold f_Mo_gather_142 at hf
  refine k_aload_n (pc := 142) rfl z_m0 d_Mo_gather_142 ?_
  refine k_iload_n (pc := 143) rfl z_m2 d_Mo_gather_143 ?_
  refine k_iload_n (pc := 144) rfl z_m1 d_Mo_gather_144 ?_
  obtain ⟨n1, e_n1, hf⟩ := z_bd hf
  obtain ⟨q2, e_q2, hf⟩ := z_bd hf
  refine k_callVi (pc := 145) (as := [(0, a2), (0, a1)]) (rest := []) d_Mo_gather_145 cw_Mo_gather_206 rfl (Nat.le_of_ble_eq_true rfl) (z_ck_of e_n1) (t_Mo_addRules e_q2) ?_
  refine k_istore_n (pc := 148) (L' := [(2, (0, q2.1)), (0, (2, ((a0 : Nat) : Int))), (1, (0, a1))]) rfl d_Mo_gather_148 (Nat.le_of_ble_eq_true rfl) rfl ?_
  refine k_aload_n (pc := 149) rfl z_m1 d_Mo_gather_149 ?_
  obtain ⟨v3, e_v3, hf⟩ := z_bd hf
  refine k_getR (pc := 150) d_Mo_gather_150 fd_Mo_23 rfl e_v3 ?_
  refine k_iload_n (pc := 153) rfl z_m2 d_Mo_gather_153 ?_
  obtain ⟨v4, e_v4, hf⟩ := z_bd hf
  refine k_iald (pc := 154) d_Mo_gather_154 e_v4 ?_
  rcases z_it hf with ⟨w9, hf⟩ | ⟨w9, hf⟩
  · refine k_if_ge_t (pc := 155) (tgt := 162) w9 d_Mo_gather_155 rfl ?_
    refine k_aload_n (pc := 162) rfl z_m1 d_Mo_gather_162 ?_
    refine k_iload_n (pc := 163) rfl z_m0 d_Mo_gather_163 ?_
    refine k_aload_n (pc := 164) rfl z_m1 d_Mo_gather_164 ?_
    obtain ⟨v5, e_v5, hf⟩ := z_bd hf
    refine k_getR (pc := 165) d_Mo_gather_165 fd_Mo_23 rfl e_v5 ?_
    refine k_iload_n (pc := 168) rfl z_m2 d_Mo_gather_168 ?_
    obtain ⟨v6, e_v6, hf⟩ := z_bd hf
    refine k_iald (pc := 169) d_Mo_gather_169 e_v6 ?_
    obtain ⟨n7, e_n7, hf⟩ := z_bd hf
    obtain ⟨q8, e_q8, hf⟩ := z_bd hf
    refine k_callVi (pc := 170) (as := [(0, q2.1), (0, v6)]) (rest := []) d_Mo_gather_170 cw_Mo_gather_206 rfl (Nat.le_of_ble_eq_true rfl) (z_ck_of e_n7) (t_Mo_addRules e_q8) ?_
    cases hf
    exact k_iret (pc := 173) d_Mo_gather_173 rfl
  · refine k_if_ge_f (pc := 155) (tgt := 162) w9 d_Mo_gather_155 rfl ?_
    refine k_iload_n (pc := 158) rfl z_m0 d_Mo_gather_158 ?_
    refine k_goto (pc := 159) (tgt := 173) d_Mo_gather_159 rfl ?_
    cases hf
    exact k_iret (pc := 173) d_Mo_gather_173 rfl
theorem b_Mo_gather_90 (c51 : Nat → Int → Int → Int → zH → Option (Int × zH)) (k51 : ∀ (x0 : Nat) (x1 : Int) (x2 : Int) (x3 : Int) (g : zH) (r : Int × zH), c51 x0 x1 x2 x3 g = some r → zK m_Mo_gather 51 [(0, (2, ((x0 : Nat) : Int))), (1, (0, x1)), (2, (0, x2)), (3, (0, x3))] [] g (some (0, r.1), r.2)) : ∀ (n : Nat) (a0 : Nat) (a1 : Int) (a2 : Int) (a3 : Int) (a4 : Int) (a5 : Int) (h : zH) (r : Int × zH), f_Mo_gather_90 c51 n a0 a1 a2 a3 a4 a5 h = some r → zK m_Mo_gather 90 [(0, (2, ((a0 : Nat) : Int))), (1, (0, a1)), (2, (0, a2)), (3, (0, a3)), (4, (0, a4)), (5, (0, a5))] [] h (some (0, r.1), r.2) := by
  intro n
  induction n with
  | zero =>
    intro a0 a1 a2 a3 a4 a5 h r hf
    cases hf
  | succ n ih =>
    intro a0 a1 a2 a3 a4 a5 h r hf
    unfold f_Mo_gather_90 at hf
    refine k_iload (pc := 90) z_m5 d_Mo_gather_90 ?_
    refine k_aload_n (pc := 92) rfl z_m0 d_Mo_gather_92 ?_
    obtain ⟨v10, e_v10, hf⟩ := z_bd hf
    refine k_getR (pc := 93) d_Mo_gather_93 fd_Mo_71 rfl e_v10 ?_
    refine k_iload_n (pc := 96) rfl z_m3 d_Mo_gather_96 ?_
    obtain ⟨v11, e_v11, hf⟩ := z_bd hf
    refine k_iald (pc := 97) d_Mo_gather_97 e_v11 ?_
    rcases z_it hf with ⟨w16, hf⟩ | ⟨w16, hf⟩
    · refine k_ic_ge_t (pc := 98) (tgt := 136) w16 d_Mo_gather_98 rfl ?_
      refine k_iinc (pc := 136) (L' := [(3, (0, zw (a3 + 1))), (0, (2, ((a0 : Nat) : Int))), (1, (0, a1)), (2, (0, a2)), (4, (0, a4)), (5, (0, a5))]) z_m3 d_Mo_gather_136 (Nat.le_of_ble_eq_true rfl) rfl ?_
      refine k_goto (pc := 139) (tgt := 51) d_Mo_gather_139 rfl ?_
      refine k_sub [1, 2, 3, 0] rfl ?_
      exact k51 a0 a1 a2 (zw (a3 + 1)) h _ hf
    · refine k_ic_ge_f (pc := 98) (tgt := 136) w16 d_Mo_gather_98 rfl ?_
      refine k_aload_n (pc := 101) rfl z_m0 d_Mo_gather_101 ?_
      obtain ⟨v12, e_v12, hf⟩ := z_bd hf
      refine k_getR (pc := 102) d_Mo_gather_102 fd_Mo_74 rfl e_v12 ?_
      refine k_bipush (pc := 105) (zi_lit rfl) (by decide) d_Mo_gather_105 ?_
      refine k_iload_n (pc := 107) rfl z_m3 d_Mo_gather_107 ?_
      refine k_imul (pc := 108) d_Mo_gather_108 ?_
      refine k_iload (pc := 109) z_m5 d_Mo_gather_109 ?_
      refine k_iadd (pc := 111) d_Mo_gather_111 ?_
      refine k_aload_n (pc := 112) rfl z_m0 d_Mo_gather_112 ?_
      obtain ⟨v13, e_v13, hf⟩ := z_bd hf
      refine k_getR (pc := 113) d_Mo_gather_113 fd_Mo_107 rfl e_v13 ?_
      refine k_sipush (pc := 116) (zi_lit rfl) (by decide) d_Mo_gather_116 ?_
      refine k_bipush (pc := 119) (zi_lit rfl) (by decide) d_Mo_gather_119 ?_
      refine k_iload (pc := 121) z_m4 d_Mo_gather_121 ?_
      refine k_imul (pc := 123) d_Mo_gather_123 ?_
      refine k_iadd (pc := 124) d_Mo_gather_124 ?_
      refine k_iload (pc := 125) z_m5 d_Mo_gather_125 ?_
      refine k_iadd (pc := 127) d_Mo_gather_127 ?_
      obtain ⟨v14, e_v14, hf⟩ := z_bd hf
      refine k_iald (pc := 128) d_Mo_gather_128 e_v14 ?_
      obtain ⟨h15, e_h15, hf⟩ := z_bd hf
      refine k_iast (pc := 129) d_Mo_gather_129 e_h15 ?_
      refine k_iinc (pc := 130) (L' := [(5, (0, zw (a5 + 1))), (0, (2, ((a0 : Nat) : Int))), (1, (0, a1)), (2, (0, a2)), (3, (0, a3)), (4, (0, a4))]) z_m5 d_Mo_gather_130 (Nat.le_of_ble_eq_true rfl) rfl ?_
      refine k_goto (pc := 133) (tgt := 90) d_Mo_gather_133 rfl ?_
      refine k_sub [1, 2, 3, 4, 5, 0] rfl ?_
      exact ih a0 a1 a2 a3 a4 (zw (a5 + 1)) h15 _ hf
theorem b_Mo_gather_51 : ∀ (n : Nat) (a0 : Nat) (a1 : Int) (a2 : Int) (a3 : Int) (h : zH) (r : Int × zH), f_Mo_gather_51 n a0 a1 a2 a3 h = some r → zK m_Mo_gather 51 [(0, (2, ((a0 : Nat) : Int))), (1, (0, a1)), (2, (0, a2)), (3, (0, a3))] [] h (some (0, r.1), r.2) := by
  intro n
  induction n with
  | zero =>
    intro a0 a1 a2 a3 h r hf
    cases hf
  | succ n ih =>
    intro a0 a1 a2 a3 h r hf
    unfold f_Mo_gather_51 at hf
    refine k_iload_n (pc := 51) rfl z_m3 d_Mo_gather_51 ?_
    refine k_iconst (pc := 52) (zi_lit rfl) d_Mo_gather_52 ?_
    rcases z_it hf with ⟨w23, hf⟩ | ⟨w23, hf⟩
    · refine k_ic_ge_t (pc := 53) (tgt := 142) w23 d_Mo_gather_53 rfl ?_
      refine k_sub [0, 1, 2] rfl ?_
      exact b_Mo_gather_142 a0 a1 a2 h _ hf
    · refine k_ic_ge_f (pc := 53) (tgt := 142) w23 d_Mo_gather_53 rfl ?_
      refine k_iconst (pc := 56) (zi_lit rfl) d_Mo_gather_56 ?_
      refine k_aload_n (pc := 57) rfl z_m0 d_Mo_gather_57 ?_
      obtain ⟨v17, e_v17, hf⟩ := z_bd hf
      refine k_getR (pc := 58) d_Mo_gather_58 fd_Mo_98 rfl e_v17 ?_
      refine k_bipush (pc := 61) (zi_lit rfl) (by decide) d_Mo_gather_61 ?_
      obtain ⟨v18, e_v18, hf⟩ := z_bd hf
      refine k_iald (pc := 63) d_Mo_gather_63 e_v18 ?_
      refine k_imul (pc := 64) d_Mo_gather_64 ?_
      refine k_iconst (pc := 65) (zi_lit rfl) d_Mo_gather_65 ?_
      refine k_isub (pc := 66) d_Mo_gather_66 ?_
      refine k_iload_n (pc := 67) rfl z_m3 d_Mo_gather_67 ?_
      refine k_iadd (pc := 68) d_Mo_gather_68 ?_
      refine k_istore (pc := 69) (L' := [(4, (0, zw ((zw ((zw (2 * v18)) - 2)) + a3))), (0, (2, ((a0 : Nat) : Int))), (1, (0, a1)), (2, (0, a2)), (3, (0, a3))]) d_Mo_gather_69 (Nat.le_of_ble_eq_true rfl) rfl ?_
      refine k_aload_n (pc := 71) rfl z_m1 d_Mo_gather_71 ?_
      obtain ⟨v19, e_v19, hf⟩ := z_bd hf
      refine k_getR (pc := 72) d_Mo_gather_72 fd_Mo_71 rfl e_v19 ?_
      refine k_iload_n (pc := 75) rfl z_m4 d_Mo_gather_75 ?_
      refine k_aload_n (pc := 76) rfl z_m1 d_Mo_gather_76 ?_
      obtain ⟨v20, e_v20, hf⟩ := z_bd hf
      refine k_getR (pc := 77) d_Mo_gather_77 fd_Mo_104 rfl e_v20 ?_
      refine k_bipush (pc := 80) (zi_lit rfl) (by decide) d_Mo_gather_80 ?_
      refine k_iload (pc := 82) z_m0 d_Mo_gather_82 ?_
      refine k_iadd (pc := 84) d_Mo_gather_84 ?_
      obtain ⟨v21, e_v21, hf⟩ := z_bd hf
      refine k_iald (pc := 85) d_Mo_gather_85 e_v21 ?_
      obtain ⟨h22, e_h22, hf⟩ := z_bd hf
      refine k_iast (pc := 86) d_Mo_gather_86 e_h22 ?_
      refine k_iconst (pc := 87) (zi_lit rfl) d_Mo_gather_87 ?_
      refine k_istore (pc := 88) (L' := [(5, (0, 0)), (4, (0, zw ((zw ((zw (2 * v18)) - 2)) + a3))), (0, (2, ((a0 : Nat) : Int))), (1, (0, a1)), (2, (0, a2)), (3, (0, a3))]) d_Mo_gather_88 (Nat.le_of_ble_eq_true rfl) rfl ?_
      refine k_sub [2, 3, 4, 5, 1, 0] rfl ?_
      exact b_Mo_gather_90 (f_Mo_gather_51 n) ih 100000 a0 a1 a2 a3 (zw ((zw ((zw (2 * v18)) - 2)) + a3)) 0 h22 _ hf
theorem b_Mo_gather_29 (a0 : Nat) (s0 : Int) (h : zH) (r : Int × zH) (hf : f_Mo_gather_29 a0 s0 h = some r) : zK m_Mo_gather 29 [(0, (2, ((a0 : Nat) : Int)))] [(0, s0)] h (some (0, r.1), r.2) := by
  unfold f_Mo_gather_29 at hf
  refine k_istore_n (pc := 29) (L' := [(1, (0, s0)), (0, (2, ((a0 : Nat) : Int)))]) rfl d_Mo_gather_29 (Nat.le_of_ble_eq_true rfl) rfl ?_
  refine k_iconst (pc := 30) (zi_lit rfl) d_Mo_gather_30 ?_
  refine k_istore_n (pc := 31) (L' := [(2, (0, 0)), (1, (0, s0)), (0, (2, ((a0 : Nat) : Int)))]) rfl d_Mo_gather_31 (Nat.le_of_ble_eq_true rfl) rfl ?_
  refine k_iload_n (pc := 32) rfl z_m1 d_Mo_gather_32 ?_
  rcases z_it hf with ⟨w26, hf⟩ | ⟨w26, hf⟩
  · refine k_if_le_t (pc := 33) (tgt := 142) w26 d_Mo_gather_33 rfl ?_
    refine k_sub [2, 1, 0] rfl ?_
    exact b_Mo_gather_142 a0 s0 0 h _ hf
  · refine k_if_le_f (pc := 33) (tgt := 142) w26 d_Mo_gather_33 rfl ?_
    refine k_aload_n (pc := 36) rfl z_m2 d_Mo_gather_36 ?_
    obtain ⟨v24, e_v24, hf⟩ := z_bd hf
    refine k_getR (pc := 37) d_Mo_gather_37 fd_Mo_110 rfl e_v24 ?_
    refine k_iconst (pc := 40) (zi_lit rfl) d_Mo_gather_40 ?_
    refine k_iconst (pc := 41) (zi_lit rfl) d_Mo_gather_41 ?_
    refine k_iload_n (pc := 42) rfl z_m1 d_Mo_gather_42 ?_
    refine k_imul (pc := 43) d_Mo_gather_43 ?_
    refine k_iconst (pc := 44) (zi_lit rfl) d_Mo_gather_44 ?_
    refine k_iadd (pc := 45) d_Mo_gather_45 ?_
    obtain ⟨h25, e_h25, hf⟩ := z_bd hf
    refine k_iast (pc := 46) d_Mo_gather_46 e_h25 ?_
    refine k_iconst (pc := 47) (zi_lit rfl) d_Mo_gather_47 ?_
    refine k_istore_n (pc := 48) (L' := [(2, (0, 1)), (1, (0, s0)), (0, (2, ((a0 : Nat) : Int)))]) rfl d_Mo_gather_48 (Nat.le_of_ble_eq_true rfl) rfl ?_
    refine k_iconst (pc := 49) (zi_lit rfl) d_Mo_gather_49 ?_
    refine k_istore_n (pc := 50) (L' := [(3, (0, 0)), (2, (0, 1)), (1, (0, s0)), (0, (2, ((a0 : Nat) : Int)))]) rfl d_Mo_gather_50 (Nat.le_of_ble_eq_true rfl) rfl ?_
    refine k_sub [3, 2, 1, 0] rfl ?_
    exact b_Mo_gather_51 100000 a0 s0 1 0 h25 _ hf
theorem b_Mo_gather_0 (a0 : Nat) (h : zH) (r : Int × zH) (hf : f_Mo_gather a0 h = some r) : zK m_Mo_gather 0 [(0, (2, ((a0 : Nat) : Int)))] [] h (some (0, r.1), r.2) := by
  unfold f_Mo_gather at hf
  refine k_aload_n (pc := 0) rfl z_m0 d_Mo_gather_0 ?_
  obtain ⟨v27, e_v27, hf⟩ := z_bd hf
  refine k_getR (pc := 1) d_Mo_gather_1 fd_Mo_98 rfl e_v27 ?_
  refine k_bipush (pc := 4) (zi_lit rfl) (by decide) d_Mo_gather_4 ?_
  obtain ⟨v28, e_v28, hf⟩ := z_bd hf
  refine k_iald (pc := 6) d_Mo_gather_6 e_v28 ?_
  rcases z_it hf with ⟨w33, hf⟩ | ⟨w33, hf⟩
  · refine k_if_ne_f (pc := 7) (tgt := 14) w33 d_Mo_gather_7 rfl ?_
    refine k_iconst (pc := 10) (zi_lit rfl) d_Mo_gather_10 ?_
    refine k_goto (pc := 11) (tgt := 29) d_Mo_gather_11 rfl ?_
    exact b_Mo_gather_29 a0 0 h _ hf
  · refine k_if_ne_t (pc := 7) (tgt := 14) w33 d_Mo_gather_7 rfl ?_
    refine k_aload_n (pc := 14) rfl z_m0 d_Mo_gather_14 ?_
    obtain ⟨v29, e_v29, hf⟩ := z_bd hf
    refine k_getR (pc := 15) d_Mo_gather_15 fd_Mo_101 rfl e_v29 ?_
    refine k_bipush (pc := 18) (zi_lit rfl) (by decide) d_Mo_gather_18 ?_
    refine k_aload_n (pc := 20) rfl z_m0 d_Mo_gather_20 ?_
    obtain ⟨v30, e_v30, hf⟩ := z_bd hf
    refine k_getR (pc := 21) d_Mo_gather_21 fd_Mo_98 rfl e_v30 ?_
    refine k_bipush (pc := 24) (zi_lit rfl) (by decide) d_Mo_gather_24 ?_
    obtain ⟨v31, e_v31, hf⟩ := z_bd hf
    refine k_iald (pc := 26) d_Mo_gather_26 e_v31 ?_
    refine k_iadd (pc := 27) d_Mo_gather_27 ?_
    obtain ⟨v32, e_v32, hf⟩ := z_bd hf
    refine k_iald (pc := 28) d_Mo_gather_28 e_v32 ?_
    exact b_Mo_gather_29 a0 v32 h _ hf
theorem t_Mo_gather {a0 : Nat} {h : zH} {r : Int × zH} (hf : f_Mo_gather a0 h = some r) : zMt m_Mo_gather [(2, ((a0 : Nat) : Int))] h (some (0, r.1), r.2) := zMt.of (by decide) (Nat.le_of_ble_eq_true rfl) (b_Mo_gather_0 a0 h r hf)
