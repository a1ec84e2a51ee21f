/-! The law's loop, out of one case a method -/
def CaseR (L : Nat) (fS fM : zH → Option (Int × zH)) : Prop := ∀ (ρ : Nat → Nat → Nat) (μ : Nat → Nat → Int), Inv ρ μ → ∃ (a : Int) (ρ1 : Nat → Nat → Nat) (μ1 μ2 : Nat → Nat → Int), fS (SH L, ρ, μ) = some (a, (SH L, ρ1, μ1)) ∧ fM (SH L, ρ1, μ1) = some (a, (SH L, ρ1, μ2)) ∧ Inv ρ1 μ2 ∧ (∀ j, μ1 0 j = μ 0 j) ∧ ∀ j, μ2 0 j = μ 0 j
def CaseV (L : Nat) (fS fM : zH → Option zH) : Prop := ∀ (ρ : Nat → Nat → Nat) (μ : Nat → Nat → Int), Inv ρ μ → ∃ (ρ1 : Nat → Nat → Nat) (μ1 μ2 : Nat → Nat → Int), fS (SH L, ρ, μ) = some (SH L, ρ1, μ1) ∧ fM (SH L, ρ1, μ1) = some (SH L, ρ1, μ2) ∧ Inv ρ1 μ2 ∧ (∀ j, μ1 0 j = μ 0 j) ∧ ∀ j, μ2 0 j = μ 0 j
def AllC (L : Nat) : Prop := (∀ a : Int, CaseR L (f_SL_type 1 a) (f_Mo_type 233 a)) ∧ (CaseV L (f_SL_wipe 1) (f_Mo_wipe 233)) ∧ (∀ a b : Int, CaseR L (f_SL_piece 1 a b) (f_Mo_piece 233 a b)) ∧ (∀ a b : Int, CaseR L (f_SL_range 1 a b) (f_Mo_range 233 a b)) ∧ (∀ a b : Int, CaseR L (f_SL_include 1 a b) (f_Mo_include 233 a b)) ∧ (∀ a b c : Int, CaseR L (f_SL_theme 1 a b c) (f_Mo_theme 233 a b c)) ∧ (∀ a : Int, CaseR L (f_SL_put 1 a) (f_Mo_put 233 a)) ∧ (∀ a : Int, CaseR L (f_SL_drop 1 a) (f_Mo_drop 233 a)) ∧ (CaseR L (f_SL_lines 1) (f_Mo_lines 233)) ∧ (CaseR L (f_SL_passes 1) (f_Mo_passes 233)) ∧ (∀ a : Int, CaseR L (f_SL_length 1 a) (f_Mo_length 233 a)) ∧ (∀ a : Int, CaseR L (f_SL_tokens 1 a) (f_Mo_tokens 233 a)) ∧ (∀ a b c : Int, CaseR L (f_SL_token 1 a b c) (f_Mo_token 233 a b c)) ∧ (∀ a : Int, CaseR L (f_SL_marked 1 a) (f_Mo_marked 233 a)) ∧ (∀ a b : Int, CaseR L (f_SL_state 1 a b) (f_Mo_state 233 a b)) ∧ (∀ a b c : Int, CaseR L (f_SL_text 1 a b c) (f_Mo_text 233 a b c)) ∧ (∀ a b c d : Int, CaseR L (f_SL_find 1 a b c d) (f_Mo_find 233 a b c d))
set_option maxHeartbeats 4000000 in
theorem law_loop (L : Nat) (hL : L ≤ 2561) (hC : AllC L) : ∀ (n : Nat) (i : Int) (ρ : Nat → Nat → Nat) (μ : Nat → Nat → Int), 1 ≤ i → i ≤ 3000 → (L : Int) < i + 5 * n → 1 ≤ n → Inv ρ μ → ∃ ρ' μ', f_Lw_law_28 n 1 233 i (SH L, ρ, μ) = some (1, (SH L, ρ', μ')) := by
  obtain ⟨c_type, c_wipe, c_piece, c_range, c_include, c_theme, c_put, c_drop, c_lines, c_passes, c_length, c_tokens, c_token, c_marked, c_state, c_text, c_find⟩ := hC
  intro n
  induction n with
  | zero =>
    intro i ρ μ h1 h2 h3 h4
    omega
  | succ n ih =>
    intro i ρ μ h1 h3k hn hn1 hI
    unfold f_Lw_law_28
    rw [zlen_k s_0 (by omega), Option.bind_some, zw_of (by omega) (by omega)]
    by_cases hi : (L : Int) - 5 < i
    · rw [if_pos hi]
      exact ⟨ρ, μ, rfl⟩
    rw [if_neg hi]
    have rd : ∀ (k : Int) (ρ' : Nat → Nat → Nat) (μ' : Nat → Nat → Int), 0 ≤ k → k ≤ 4 → (∀ j, μ' 0 j = μ 0 j) → z_aI (SH L, ρ', μ') 99 0 (zw (i + k)) = some (μ 0 (i + k).toNat) := by
      intro k ρ' μ' k0 k4 hm
      rw [zw_of (by omega) (by omega), zaI_k s_0 (by omega) (by omega), hm]
    have rf : ∀ j, μ 0 j = μ 0 j := fun _ => rfl
    have nx : ∀ (ρ' : Nat → Nat → Nat) (μ' : Nat → Nat → Int), Inv ρ' μ' → ∃ ρ2 μ2, f_Lw_law_643 (f_Lw_law_28 n) 1 233 i (SH L, ρ', μ') = some (1, (SH L, ρ2, μ2)) := by
      intro ρ' μ' hI'
      unfold f_Lw_law_643
      rw [zw_of (by omega) (by omega)]
      exact ih (i + 5) ρ' μ' (by omega) (by omega) (by omega) (by omega) hI'
    rw [zaI_k s_0 (by omega) (by omega), Option.bind_some]
    generalize hv : z_and (μ 0 i.toNat) 31 = v
    by_cases g0 : v = 0
    · rw [if_pos g0]
      rw [rd 1 ρ μ (by omega) (by omega) rf, Option.bind_some, rd 2 ρ μ (by omega) (by omega) rf, Option.bind_some]
      rw [zck_k s_1, Option.bind_some]
      obtain ⟨a, ρ1, μ1, μ2, e1, e2, hI2, f1, f2⟩ := c_type (z_lor (z_lshl (μ 0 (i + 1).toNat) 32) (z_land (μ 0 (i + 2).toNat) 4294967295)) ρ μ hI
      rw [e1, Option.bind_some]
      dsimp only
      rw [rd 1 ρ1 μ1 (by omega) (by omega) f1, Option.bind_some, rd 2 ρ1 μ1 (by omega) (by omega) f1, Option.bind_some]
      rw [zck_k s_233, Option.bind_some, e2, Option.bind_some]
      dsimp only
      rw [if_pos rfl]
      exact nx ρ1 μ2 hI2
    rw [if_neg g0]
    by_cases g1 : v = 1
    · rw [if_pos g1]
      rw [zck_k s_1, Option.bind_some]
      obtain ⟨ρ1, μ1, μ2, e1, e2, hI2, f1, f2⟩ := c_wipe ρ μ hI
      rw [e1, Option.bind_some, zck_k s_233, Option.bind_some, e2, Option.bind_some]
      exact nx ρ1 μ2 hI2
    rw [if_neg g1]
    by_cases g2 : v = 2
    · rw [if_pos g2]
      rw [rd 1 ρ μ (by omega) (by omega) rf, Option.bind_some, rd 2 ρ μ (by omega) (by omega) rf, Option.bind_some]
      rw [zck_k s_1, Option.bind_some]
      obtain ⟨a, ρ1, μ1, μ2, e1, e2, hI2, f1, f2⟩ := c_piece (μ 0 (i + 1).toNat) (μ 0 (i + 2).toNat) ρ μ hI
      rw [e1, Option.bind_some]
      dsimp only
      rw [rd 1 ρ1 μ1 (by omega) (by omega) f1, Option.bind_some, rd 2 ρ1 μ1 (by omega) (by omega) f1, Option.bind_some]
      rw [zck_k s_233, Option.bind_some, e2, Option.bind_some]
      dsimp only
      rw [if_pos rfl]
      exact nx ρ1 μ2 hI2
    rw [if_neg g2]
    by_cases g3 : v = 3
    · rw [if_pos g3]
      rw [rd 1 ρ μ (by omega) (by omega) rf, Option.bind_some, rd 2 ρ μ (by omega) (by omega) rf, Option.bind_some]
      rw [zck_k s_1, Option.bind_some]
      obtain ⟨a, ρ1, μ1, μ2, e1, e2, hI2, f1, f2⟩ := c_range (μ 0 (i + 1).toNat) (μ 0 (i + 2).toNat) ρ μ hI
      rw [e1, Option.bind_some]
      dsimp only
      rw [rd 1 ρ1 μ1 (by omega) (by omega) f1, Option.bind_some, rd 2 ρ1 μ1 (by omega) (by omega) f1, Option.bind_some]
      rw [zck_k s_233, Option.bind_some, e2, Option.bind_some]
      dsimp only
      rw [if_pos rfl]
      exact nx ρ1 μ2 hI2
    rw [if_neg g3]
    by_cases g4 : v = 4
    · rw [if_pos g4]
      rw [rd 1 ρ μ (by omega) (by omega) rf, Option.bind_some, rd 2 ρ μ (by omega) (by omega) rf, Option.bind_some]
      rw [zck_k s_1, Option.bind_some]
      obtain ⟨a, ρ1, μ1, μ2, e1, e2, hI2, f1, f2⟩ := c_include (μ 0 (i + 1).toNat) (μ 0 (i + 2).toNat) ρ μ hI
      rw [e1, Option.bind_some]
      dsimp only
      rw [rd 1 ρ1 μ1 (by omega) (by omega) f1, Option.bind_some, rd 2 ρ1 μ1 (by omega) (by omega) f1, Option.bind_some]
      rw [zck_k s_233, Option.bind_some, e2, Option.bind_some]
      dsimp only
      rw [if_pos rfl]
      exact nx ρ1 μ2 hI2
    rw [if_neg g4]
    by_cases g5 : v = 5
    · rw [if_pos g5]
      rw [rd 1 ρ μ (by omega) (by omega) rf, Option.bind_some, rd 2 ρ μ (by omega) (by omega) rf, Option.bind_some, rd 3 ρ μ (by omega) (by omega) rf, Option.bind_some]
      rw [zck_k s_1, Option.bind_some]
      obtain ⟨a, ρ1, μ1, μ2, e1, e2, hI2, f1, f2⟩ := c_theme (μ 0 (i + 1).toNat) (μ 0 (i + 2).toNat) (μ 0 (i + 3).toNat) ρ μ hI
      rw [e1, Option.bind_some]
      dsimp only
      rw [rd 1 ρ1 μ1 (by omega) (by omega) f1, Option.bind_some, rd 2 ρ1 μ1 (by omega) (by omega) f1, Option.bind_some, rd 3 ρ1 μ1 (by omega) (by omega) f1, Option.bind_some]
      rw [zck_k s_233, Option.bind_some, e2, Option.bind_some]
      dsimp only
      rw [if_pos rfl]
      exact nx ρ1 μ2 hI2
    rw [if_neg g5]
    by_cases g6 : v = 6
    · rw [if_pos g6]
      rw [rd 1 ρ μ (by omega) (by omega) rf, Option.bind_some]
      rw [zck_k s_1, Option.bind_some]
      obtain ⟨a, ρ1, μ1, μ2, e1, e2, hI2, f1, f2⟩ := c_put (μ 0 (i + 1).toNat) ρ μ hI
      rw [e1, Option.bind_some]
      dsimp only
      rw [rd 1 ρ1 μ1 (by omega) (by omega) f1, Option.bind_some]
      rw [zck_k s_233, Option.bind_some, e2, Option.bind_some]
      dsimp only
      rw [if_pos rfl]
      exact nx ρ1 μ2 hI2
    rw [if_neg g6]
    by_cases g7 : v = 7
    · rw [if_pos g7]
      rw [rd 1 ρ μ (by omega) (by omega) rf, Option.bind_some]
      rw [zck_k s_1, Option.bind_some]
      obtain ⟨a, ρ1, μ1, μ2, e1, e2, hI2, f1, f2⟩ := c_drop (μ 0 (i + 1).toNat) ρ μ hI
      rw [e1, Option.bind_some]
      dsimp only
      rw [rd 1 ρ1 μ1 (by omega) (by omega) f1, Option.bind_some]
      rw [zck_k s_233, Option.bind_some, e2, Option.bind_some]
      dsimp only
      rw [if_pos rfl]
      exact nx ρ1 μ2 hI2
    rw [if_neg g7]
    by_cases g8 : v = 8
    · rw [if_pos g8]
      rw [zck_k s_1, Option.bind_some]
      obtain ⟨a, ρ1, μ1, μ2, e1, e2, hI2, f1, f2⟩ := c_lines ρ μ hI
      rw [e1, Option.bind_some]
      dsimp only
      rw [zck_k s_233, Option.bind_some, e2, Option.bind_some]
      dsimp only
      rw [if_pos rfl]
      exact nx ρ1 μ2 hI2
    rw [if_neg g8]
    by_cases g9 : v = 9
    · rw [if_pos g9]
      rw [zck_k s_1, Option.bind_some]
      obtain ⟨a, ρ1, μ1, μ2, e1, e2, hI2, f1, f2⟩ := c_passes ρ μ hI
      rw [e1, Option.bind_some]
      dsimp only
      rw [zck_k s_233, Option.bind_some, e2, Option.bind_some]
      dsimp only
      rw [if_pos rfl]
      exact nx ρ1 μ2 hI2
    rw [if_neg g9]
    by_cases g10 : v = 10
    · rw [if_pos g10]
      rw [rd 1 ρ μ (by omega) (by omega) rf, Option.bind_some]
      rw [zck_k s_1, Option.bind_some]
      obtain ⟨a, ρ1, μ1, μ2, e1, e2, hI2, f1, f2⟩ := c_length (μ 0 (i + 1).toNat) ρ μ hI
      rw [e1, Option.bind_some]
      dsimp only
      rw [rd 1 ρ1 μ1 (by omega) (by omega) f1, Option.bind_some]
      rw [zck_k s_233, Option.bind_some, e2, Option.bind_some]
      dsimp only
      rw [if_pos rfl]
      exact nx ρ1 μ2 hI2
    rw [if_neg g10]
    by_cases g11 : v = 11
    · rw [if_pos g11]
      rw [rd 1 ρ μ (by omega) (by omega) rf, Option.bind_some]
      rw [zck_k s_1, Option.bind_some]
      obtain ⟨a, ρ1, μ1, μ2, e1, e2, hI2, f1, f2⟩ := c_tokens (μ 0 (i + 1).toNat) ρ μ hI
      rw [e1, Option.bind_some]
      dsimp only
      rw [rd 1 ρ1 μ1 (by omega) (by omega) f1, Option.bind_some]
      rw [zck_k s_233, Option.bind_some, e2, Option.bind_some]
      dsimp only
      rw [if_pos rfl]
      exact nx ρ1 μ2 hI2
    rw [if_neg g11]
    by_cases g12 : v = 12
    · rw [if_pos g12]
      rw [rd 1 ρ μ (by omega) (by omega) rf, Option.bind_some, rd 2 ρ μ (by omega) (by omega) rf, Option.bind_some, rd 3 ρ μ (by omega) (by omega) rf, Option.bind_some]
      rw [zck_k s_1, Option.bind_some]
      obtain ⟨a, ρ1, μ1, μ2, e1, e2, hI2, f1, f2⟩ := c_token (μ 0 (i + 1).toNat) (μ 0 (i + 2).toNat) (μ 0 (i + 3).toNat) ρ μ hI
      rw [e1, Option.bind_some]
      dsimp only
      rw [rd 1 ρ1 μ1 (by omega) (by omega) f1, Option.bind_some, rd 2 ρ1 μ1 (by omega) (by omega) f1, Option.bind_some, rd 3 ρ1 μ1 (by omega) (by omega) f1, Option.bind_some]
      rw [zck_k s_233, Option.bind_some, e2, Option.bind_some]
      dsimp only
      rw [if_pos rfl]
      exact nx ρ1 μ2 hI2
    rw [if_neg g12]
    by_cases g13 : v = 13
    · rw [if_pos g13]
      rw [rd 1 ρ μ (by omega) (by omega) rf, Option.bind_some]
      rw [zck_k s_1, Option.bind_some]
      obtain ⟨a, ρ1, μ1, μ2, e1, e2, hI2, f1, f2⟩ := c_marked (μ 0 (i + 1).toNat) ρ μ hI
      rw [e1, Option.bind_some]
      dsimp only
      rw [rd 1 ρ1 μ1 (by omega) (by omega) f1, Option.bind_some]
      rw [zck_k s_233, Option.bind_some, e2, Option.bind_some]
      dsimp only
      rw [if_pos rfl]
      exact nx ρ1 μ2 hI2
    rw [if_neg g13]
    by_cases g14 : v = 14
    · rw [if_pos g14]
      rw [rd 1 ρ μ (by omega) (by omega) rf, Option.bind_some, rd 2 ρ μ (by omega) (by omega) rf, Option.bind_some]
      rw [zck_k s_1, Option.bind_some]
      obtain ⟨a, ρ1, μ1, μ2, e1, e2, hI2, f1, f2⟩ := c_state (μ 0 (i + 1).toNat) (μ 0 (i + 2).toNat) ρ μ hI
      rw [e1, Option.bind_some]
      dsimp only
      rw [rd 1 ρ1 μ1 (by omega) (by omega) f1, Option.bind_some, rd 2 ρ1 μ1 (by omega) (by omega) f1, Option.bind_some]
      rw [zck_k s_233, Option.bind_some, e2, Option.bind_some]
      dsimp only
      rw [if_pos rfl]
      exact nx ρ1 μ2 hI2
    rw [if_neg g14]
    by_cases g15 : v = 15
    · rw [if_pos g15]
      rw [rd 1 ρ μ (by omega) (by omega) rf, Option.bind_some, rd 2 ρ μ (by omega) (by omega) rf, Option.bind_some, rd 3 ρ μ (by omega) (by omega) rf, Option.bind_some]
      rw [zck_k s_1, Option.bind_some]
      obtain ⟨a, ρ1, μ1, μ2, e1, e2, hI2, f1, f2⟩ := c_text (μ 0 (i + 1).toNat) (μ 0 (i + 2).toNat) (μ 0 (i + 3).toNat) ρ μ hI
      rw [e1, Option.bind_some]
      dsimp only
      rw [rd 1 ρ1 μ1 (by omega) (by omega) f1, Option.bind_some, rd 2 ρ1 μ1 (by omega) (by omega) f1, Option.bind_some, rd 3 ρ1 μ1 (by omega) (by omega) f1, Option.bind_some]
      rw [zck_k s_233, Option.bind_some, e2, Option.bind_some]
      dsimp only
      rw [if_pos rfl]
      exact nx ρ1 μ2 hI2
    rw [if_neg g15]
    by_cases g16 : v = 16
    · rw [if_pos g16]
      rw [rd 1 ρ μ (by omega) (by omega) rf, Option.bind_some, rd 2 ρ μ (by omega) (by omega) rf, Option.bind_some, rd 3 ρ μ (by omega) (by omega) rf, Option.bind_some, rd 4 ρ μ (by omega) (by omega) rf, Option.bind_some]
      rw [zck_k s_1, Option.bind_some]
      obtain ⟨a, ρ1, μ1, μ2, e1, e2, hI2, f1, f2⟩ := c_find (μ 0 (i + 1).toNat) (μ 0 (i + 2).toNat) (μ 0 (i + 3).toNat) (μ 0 (i + 4).toNat) ρ μ hI
      rw [e1, Option.bind_some]
      dsimp only
      rw [rd 1 ρ1 μ1 (by omega) (by omega) f1, Option.bind_some, rd 2 ρ1 μ1 (by omega) (by omega) f1, Option.bind_some, rd 3 ρ1 μ1 (by omega) (by omega) f1, Option.bind_some, rd 4 ρ1 μ1 (by omega) (by omega) f1, Option.bind_some]
      rw [zck_k s_233, Option.bind_some, e2, Option.bind_some]
      dsimp only
      rw [if_pos rfl]
      exact nx ρ1 μ2 hI2
    rw [if_neg g16]
    exact nx ρ μ hI
set_option maxRecDepth 100000 in
theorem z_shsum (L : Nat) : ((SH L).map Prod.snd).sum ≤ L + 100000 := by
  have h : ((SH L).map Prod.snd).sum = L + (((SH 0).tail).map Prod.snd).sum := rfl
  have h0 : (((SH 0).tail).map Prod.snd).sum ≤ 100000 := by decide +kernel
  omega
/-- the start: both constructors, and what they leave -/
theorem law_cell (L : Nat) (hL : L ≤ 2561) (S : List (Nat × Nat)) (ρ : Nat → Nat → Nat) (μ : Nat → Nat → Int) (hS : S[0]? = some (99, L)) : f_Lw_cell 0 (S, ρ, μ) = some (if 0 < L then μ 0 0 else 0, (S, ρ, μ)) := by
  unfold f_Lw_cell
  rw [zlen_k hS (by omega), Option.bind_some]
  by_cases h : 0 < L
  · rw [if_neg (by omega), zaI_k hS (by omega) (by omega), Option.bind_some, if_pos h]
    rfl
  · rw [if_pos (by omega), if_neg h]
theorem z_bud_eq (b : Int) : z_max 10 (z_min 300 b) = z_bud b := by
  unfold z_max z_min z_bud
  repeat' split
  all_goals omega
theorem law_pure (L : Nat) (hL : L ≤ 2561) (xs : Nat → Int32) (hC : AllC L) : ∃ h', f_Lw_law (z_h0 L xs) = some (1, h') ∧ h'.1.length ≤ 600000 ∧ zsl h' ≤ 7302250 := by
  unfold f_Lw_law
  have e0 : z_h0 L xs = (TK L 1, (z_h0 L xs).2.1, (z_h0 L xs).2.2) := rfl
  rw [e0]
  generalize (z_h0 L xs).2.1 = ρ
  generalize (z_h0 L xs).2.2 = μ
  rw [tk_new s_1, law_cell L hL _ _ _ (by rw [tk_at (by omega)]; exact s_0), Option.bind_some]
  dsimp only
  rw [tk_len (show 1 ≤ 272 by omega)]
  generalize hb : (if 0 < L then z0 μ 1 0 0 else 0) = b
  obtain ⟨ρ1, μ1, e1, rc, doc, low, m12, m16, m24, m32, inc, r36⟩ := i_SL L b (z0 ρ 1) (z0 μ 1)
  rw [e1, Option.bind_some, tk_len (show 233 ≤ 272 by omega), tk_new s_233, law_cell L hL _ _ _ (by rw [tk_at (by omega)]; exact s_0), Option.bind_some]
  dsimp only
  have hb2 : (if 0 < L then z0 μ1 233 0 0 else 0) = b := by
    rw [← hb, z0_ne (by decide), low 0 0 (by omega)]
  rw [hb2]
  obtain ⟨ρ2, μ2, e2, lo2, lm2, rm2, f2, b2, n2, i2⟩ := i_Mo L b (z0 ρ1 233) (z0 μ1 233)
  rw [e2, Option.bind_some]
  have kr : ∀ a j, a < 233 → ρ2 a j = ρ1 a j := fun a j ha => by rw [lo2 a j ha, z0_ne (by omega)]
  have km : ∀ a j, a < 233 → μ2 a j = μ1 a j := fun a j ha => by rw [lm2 a j ha, z0_ne (by omega)]
  have kn : ∀ j, j ≠ 0 → μ2 233 j = 0 := fun j hj => by rw [f2 j hj]; exact if_pos rfl
  have k1 : ∀ j, μ2 1 j = 0 := fun j => by rw [km 1 j (by omega), low 1 j (by omega)]; exact if_pos rfl
  have hrc : Rc ρ2 := by
    have st : ∀ c, c < 233 → stR ρ1 c → stR ρ2 c := fun c hc h => by unfold stR at h ⊢; rw [kr c 1 hc, kr c 2 hc, kr c 3 hc]; exact h
    have pt : ∀ c, c < 233 → ptR ρ1 c → ptR ρ2 c := fun c hc h => by unfold ptR at h ⊢; rw [kr c 0 hc, kr c 1 hc, kr c 2 hc, kr c 3 hc, kr c 4 hc]; exact h
    obtain ⟨a1, a2, a3, ⟨a4, a5, a6⟩, a7, a8, a9, a10⟩ := rc
    refine ⟨?_, ?_, ?_, ⟨st _ (by omega) a4, st _ (by omega) a5, st _ (by omega) a6⟩, ?_, ?_, fun r hr => ?_, fun k hk => ?_⟩
    · rw [kr 1 0 (by omega), kr 1 2 (by omega), kr 1 3 (by omega), kr 1 4 (by omega), kr 1 7 (by omega), kr 1 8 (by omega), kr 1 9 (by omega)]; exact a1
    · rw [kr 3 0 (by omega), kr 3 7 (by omega), kr 3 8 (by omega), kr 3 9 (by omega), kr 3 10 (by omega), kr 3 11 (by omega), kr 3 12 (by omega)]; exact a2
    · rw [kr 12 0 (by omega), kr 12 1 (by omega), kr 12 2 (by omega)]; exact a3
    · unfold r24 at a7 ⊢
      rw [kr 24 0 (by omega), kr 24 2 (by omega), kr 24 3 (by omega), kr 24 4 (by omega), kr 24 9 (by omega)]; exact a7
    · rw [kr 32 1 (by omega), kr 32 9 (by omega), kr 32 10 (by omega)]; exact a8
    · obtain ⟨g1, g2, g3, g4, g5⟩ := a9 r hr
      exact ⟨(kr 25 r (by omega)).trans g1, (kr _ 0 (by omega)).trans g2, (kr _ 1 (by omega)).trans g3, pt _ (by omega) g4, pt _ (by omega) g5⟩
    · obtain ⟨g1, g2, g3, g4, g5, g6⟩ := a10 k hk
      exact ⟨(kr _ 0 (by omega)).trans g1, (kr _ 2 (by omega)).trans g2, (kr _ 3 (by omega)).trans g3, (kr _ 4 (by omega)).trans g4, (kr _ 7 (by omega)).trans g5, st _ (by omega) g6⟩
  have hb10 : 10 ≤ z_bud b ∧ z_bud b ≤ 300 := by
    unfold z_bud
    repeat' split
    all_goals omega
  have hI : Inv ρ2 μ2 := by
    refine ⟨hrc, rm2, ⟨fun k hk => ⟨k, hk, by rw [kr 11 k (by omega)]; exact doc k hk⟩, fun k k' hk hk' h => ?_⟩, ?_, ?_, ?_, ?_, ?_, ?_⟩
    · rw [kr 11 k (by omega), kr 11 k' (by omega), doc k hk, doc k' hk'] at h
      omega
    · unfold RDraft
      rw [k1, kn 1 (by decide)]
      exact ⟨by omega, by omega, rfl, fun j hj => by omega⟩
    · have h24 : μ2 24 1 = 0 := (km 24 1 (by omega)).trans m24
      have h36 : μ2 36 2 = 1 := (km 36 2 (by omega)).trans r36
      unfold RRules
      rw [h24, kn 3 (by decide)]
      refine ⟨by omega, by omega, rfl, h36, fun r hr => ?_, fun r h1 hr => by omega, fun r hr => ?_⟩
      · have : r = 0 := by omega
        subst this
        exact ⟨by rw [i2]; exact h36.symm, Or.inr h36⟩
      · rw [n2 r hr, km _ 5 (by omega), inc r (by omega)]
        exact ⟨rfl, by omega, by omega⟩
    · unfold RLines
      rw [k1, k1, kn 30 (by decide), kn 31 (by decide)]
      exact ⟨by omega, by omega, rfl, rfl, fun k hk => by omega⟩
    · unfold RTheme
      rw [km 12 3 (by omega), m12, kn 48 (by decide)]
      exact ⟨by omega, by omega, rfl, fun e he => by omega⟩
    · rw [b2, km 32 0 (by omega), m32, z_bud_eq]
      exact ⟨rfl, hb10.1, hb10.2⟩
    · exact ⟨(km 16 0 (by omega)).trans m16, by rw [k1]; omega, by rw [k1]; omega⟩
  obtain ⟨ρ3, μ3, e3⟩ := law_loop L hL hC 100000 1 ρ2 μ2 (by omega) (by omega) (by omega) (by omega) hI
  refine ⟨_, e3, ?_, ?_⟩
  · show (SH L).length ≤ 600000
    rw [SH_len]
    omega
  · show ((SH L).map Prod.snd).sum ≤ 7302250
    have := z_shsum L
    omega
