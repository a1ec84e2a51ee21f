/-- the class's own references, but for the row of lines -/
def Rc (ρ : Nat → Nat → Nat) : Prop :=
  (ρ 1 0 = 2 ∧ ρ 1 2 = 3 ∧ ρ 1 3 = 24 ∧ ρ 1 4 = 11 ∧ ρ 1 7 = 12 ∧ ρ 1 8 = 16 ∧ ρ 1 9 = 20) ∧
  (ρ 3 0 = 4 ∧ ρ 3 7 = 5 ∧ ρ 3 8 = 6 ∧ ρ 3 9 = 7 ∧ ρ 3 10 = 8 ∧ ρ 3 11 = 9 ∧ ρ 3 12 = 10) ∧
  (ρ 12 0 = 13 ∧ ρ 12 1 = 14 ∧ ρ 12 2 = 15) ∧ (stR ρ 16 ∧ stR ρ 20 ∧ stR ρ 26) ∧ r24 ρ ∧ (ρ 32 1 = 33 ∧ ρ 32 9 = 34 ∧ ρ 32 10 = 35) ∧
  (∀ r, r < 11 → ρ 25 r = 36 + 13 * r ∧ ruR ρ (36 + 13 * r)) ∧ (∀ k, k < 6 → lnR ρ (179 + 9 * k))
def lnL (ρ : Nat → Nat → Nat) (k : Nat) : Prop := ∀ q, q < k → ρ 11 q = 179 + 9 * q ∧ lnR ρ (179 + 9 * q)
theorem i_SLL (L : Nat) : ∀ (n k : Nat) (ρ : Nat → Nat → Nat) (μ : Nat → Nat → Int), k ≤ 6 → 7 ≤ n + k → ρ 1 4 = 11 → lnL ρ k → ∃ ρ' μ', f_SL_init_90 n 1 (k : Int) (TK L (179 + 9 * k), ρ, μ) = some (TK L 233, ρ', μ') ∧ (∀ a j, a < 179 → a ≠ 11 → ρ' a j = ρ a j) ∧ (∀ a j, a < 179 → μ' a j = μ a j) ∧ lnL ρ' 6 := by
  intro n
  induction n with
  | zero =>
    intro k ρ μ h1 h2
    omega
  | succ n ih =>
    intro k ρ μ hk hn h14 hg
    unfold f_SL_init_90
    by_cases hlt : k < 6
    · have e1 : (TK L (179 + 9 * k))[1]? = some (0, 10) := by rw [tk_at (by omega)]; exact s_1
      rw [if_neg (by omega), zgR_k e1 h14 (by decide), Option.bind_some, tk_len (show 179 + 9 * k ≤ 272 by omega), tk_new (s_ln hlt).1]
      obtain ⟨ρ1, μ1, e1, x1, y1, p1⟩ := i_Li (s_ln (L := L) hlt) (z0 ρ (179 + 9 * k)) (z0 μ (179 + 9 * k))
      rw [e1, Option.bind_some]
      have f11 : (TK L (179 + 9 * k + 9))[11]? = some (25, 6) := by rw [tk_at (by omega)]; exact s_11
      have fln : (TK L (179 + 9 * k + 9))[179 + 9 * k]? = some (2, 8) := by rw [tk_at (by omega)]; exact (s_ln hlt).1
      rw [zsR_k f11 fln (by omega) (by omega), Option.bind_some, zw_nat (by omega)]
      have hgo := ih (k + 1) (z_up ρ1 11 (k : Int).toNat (179 + 9 * k)) μ1 (by omega) (by omega) (by rw [z_up_ne (by decide), x1 1 4 (by omega), z0_ne (by omega)]; exact h14) (by
        intro q hq
        by_cases hqr : q = k
        · subst hqr
          exact ⟨by rw [Int.toNat_natCast]; exact z_up_eq, p1.up (by omega) (by omega)⟩
        · obtain ⟨g1, g2⟩ := hg q (by omega)
          refine ⟨?_, ((g2.of (xt_z0 (c := 179 + 9 * k) (Nat.le_refl _)) (by omega)).of x1 (by omega)).up (by omega) (by omega)⟩
          rw [Int.toNat_natCast, z_up_nj hqr, x1 11 q (by omega), z0_ne (by omega)]
          exact g1)
      rw [show 179 + 9 * (k + 1) = 179 + 9 * k + 9 by omega] at hgo
      obtain ⟨ρ2, μ2, e2, a2, b2, c2⟩ := hgo
      refine ⟨ρ2, μ2, e2, fun a j ha h5 => ?_, fun a j ha => ?_, c2⟩
      · rw [a2 a j ha h5, z_up_ne h5, x1 a j (by omega), z0_ne (by omega)]
      · rw [b2 a j ha, y1 a j (by omega), z0_ne (by omega)]
    · have h6 : k = 6 := by omega
      subst h6
      rw [if_pos (by omega)]
      exact ⟨ρ, μ, rfl, fun a j _ _ => rfl, fun a j _ => rfl, hg⟩
set_option maxHeartbeats 1000000 in
theorem i_SL (L : Nat) (b : Int) (ρ : Nat → Nat → Nat) (μ : Nat → Nat → Int) : ∃ ρ' μ', f_SL_init 1 b (TK L 2, ρ, μ) = some (TK L 233, ρ', μ') ∧ Rc ρ' ∧ (∀ k, k < 6 → ρ' 11 k = 179 + 9 * k) ∧ (∀ a j, a < 2 → μ' a j = μ a j) ∧ μ' 12 3 = 0 ∧ μ' 16 0 = 0 ∧ μ' 24 1 = 0 ∧ μ' 32 0 = z_max 10 (z_min 300 b) ∧ (∀ r, r < 11 → μ' (36 + 13 * r) 5 = -1) ∧ μ' 36 2 = 1 := by
  unfold f_SL_init
  rw [na (x := 40) (n := 2) s_2 rfl (by decide) s_1 (by omega), tk_len (show 2 + 1 ≤ 272 by omega), tk_new s_3]
  generalize hA : z_up (z0 ρ 2) 1 0 2 = ρA
  generalize hB : z0 μ 2 = μA
  obtain ⟨ρ1, μ1, e1, x1, y1, p1⟩ := i_Pr L (z0 ρA 3) (z0 μA 3)
  rw [e1, Option.bind_some, tk_pR s_1 (by omega), Option.bind_some, na (x := 6) (n := 11) s_11 rfl (by decide) s_1 (by omega), tk_len (show 11 + 1 ≤ 272 by omega), tk_new s_12]
  generalize hC : z_up (z0 (z_up ρ1 1 2 3) 11) 1 4 11 = ρC
  obtain ⟨ρ2, μ2, e2, x2, y2, p2⟩ := i_Pa L (z0 ρC 12) (z0 (z0 μ1 11) 12)
  rw [e2, Option.bind_some, tk_pR s_1 (by omega), Option.bind_some, tk_len (show 16 ≤ 272 by omega), tk_new s_16]
  obtain ⟨ρ3, μ3, e3, x3, y3, p3⟩ := i_St (L := L) s_st16 (z0 (z_up ρ2 1 7 12) 16) (z0 μ2 16)
  rw [e3, Option.bind_some, tk_pR s_1 (by omega), Option.bind_some, tk_len (show 16 + 4 ≤ 272 by omega), tk_new s_20]
  obtain ⟨ρ4, μ4, e4, x4, y4, p4⟩ := i_St (L := L) s_st20 (z0 (z_up ρ3 1 8 16) 20) (z0 μ3 20)
  rw [e4, Option.bind_some, tk_pR s_1 (by omega), Option.bind_some, tk_len (show 20 + 4 ≤ 272 by omega), tk_new s_24]
  obtain ⟨ρ5, μ5, e5, x5, y5, p5, q5, t5, b5, g5, i5⟩ := i_Gr L (z_max 10 (z_min 300 b)) (z0 (z_up ρ4 1 9 20) 24) (z0 μ4 24)
  rw [e5, Option.bind_some, tk_pR s_1 (by omega), Option.bind_some]
  -- cell 1
  have c1 : ∀ j, z_up ρ5 1 3 24 1 j = if j = 3 then 24 else if j = 9 then 20 else if j = 8 then 16 else if j = 7 then 12 else if j = 4 then 11 else if j = 2 then 3 else if j = 0 then 2 else ρ 1 j := by
    intro j
    by_cases h3 : j = 3
    · subst h3; simp [z_up]
    rw [z_up_nj h3, x5 1 j (by omega), z0_ne (by omega), if_neg h3]
    by_cases h9 : j = 9
    · subst h9; simp [z_up]
    rw [z_up_nj h9, x4 1 j (by omega), z0_ne (by omega), if_neg h9]
    by_cases h8 : j = 8
    · subst h8; simp [z_up]
    rw [z_up_nj h8, x3 1 j (by omega), z0_ne (by omega), if_neg h8]
    by_cases h7 : j = 7
    · subst h7; simp [z_up]
    rw [z_up_nj h7, x2 1 j (by omega), z0_ne (by omega), ← hC, if_neg h7]
    by_cases h4 : j = 4
    · subst h4; simp [z_up]
    rw [z_up_nj h4, z0_ne (by omega), if_neg h4]
    by_cases h2 : j = 2
    · subst h2; simp [z_up]
    rw [z_up_nj h2, x1 1 j (by omega), z0_ne (by omega), ← hA, if_neg h2]
    by_cases h0 : j = 0
    · subst h0; simp [z_up]
    rw [z_up_nj h0, z0_ne (by omega), if_neg h0]
  -- the other cells, seen from the end
  have d3 : ∀ j, z_up ρ5 1 3 24 3 j = ρ1 3 j := by
    intro j
    rw [z_up_ne (by omega), x5 3 j (by omega), z0_ne (by omega), z_up_ne (by omega), x4 3 j (by omega), z0_ne (by omega), z_up_ne (by omega), x3 3 j (by omega), z0_ne (by omega), z_up_ne (by omega), x2 3 j (by omega), z0_ne (by omega), ← hC, z_up_ne (by omega), z0_ne (by omega), z_up_ne (by omega)]
  have d12 : ∀ j, z_up ρ5 1 3 24 12 j = ρ2 12 j := by
    intro j
    rw [z_up_ne (by omega), x5 12 j (by omega), z0_ne (by omega), z_up_ne (by omega), x4 12 j (by omega), z0_ne (by omega), z_up_ne (by omega), x3 12 j (by omega), z0_ne (by omega), z_up_ne (by omega)]
  have s16 : stR (z_up ρ5 1 3 24) 16 := ((((p3.up (by omega)).of (xt_z0 (c := 20) (Nat.le_refl _)) (by omega)).of x4 (by omega)).up (by omega)).of (xt_z0 (c := 24) (Nat.le_refl _)) (by omega) |>.of x5 (by omega) |>.up (by omega)
  have s20 : stR (z_up ρ5 1 3 24) 20 := ((p4.up (by omega)).of (xt_z0 (c := 24) (Nat.le_refl _)) (by omega)).of x5 (by omega) |>.up (by omega)
  have s26 : stR (z_up ρ5 1 3 24) 26 := q5.up (by omega)
  obtain ⟨ρ6, μ6, e6, a6, b6, c6⟩ := i_SLL L 100000 0 (z_up ρ5 1 3 24) μ5 (by omega) (by omega) (by rw [c1]; rfl) (fun q hq => by omega)
  have e6 : f_SL_init_90 100000 1 0 (TK L 179, z_up ρ5 1 3 24, μ5) = some (TK L 233, ρ6, μ6) := e6
  have k1 : ∀ j, ρ6 1 j = z_up ρ5 1 3 24 1 j := fun j => a6 1 j (by omega) (by omega)
  have st : ∀ c, c < 179 → c ≠ 11 → stR (z_up ρ5 1 3 24) c → stR ρ6 c := by
    intro c hc h11 hs
    unfold stR at hs ⊢
    rw [a6 c 1 hc h11, a6 c 2 hc h11, a6 c 3 hc h11]
    exact hs
  have pt : ∀ c, c < 179 → c ≠ 11 → ptR (z_up ρ5 1 3 24) c → ptR ρ6 c := by
    intro c hc h11 hs
    unfold ptR at hs ⊢
    rw [a6 c 0 hc h11, a6 c 1 hc h11, a6 c 2 hc h11, a6 c 3 hc h11, a6 c 4 hc h11]
    exact hs
  refine ⟨ρ6, μ6, e6, ⟨⟨?_, ?_, ?_, ?_, ?_, ?_, ?_⟩, ⟨?_, ?_, ?_, ?_, ?_, ?_, ?_⟩, ⟨?_, ?_, ?_⟩, ⟨st 16 (by omega) (by omega) s16, st 20 (by omega) (by omega) s20, st 26 (by omega) (by omega) s26⟩, ⟨?_, ?_, ?_, ?_, ?_⟩, ⟨?_, ?_, ?_⟩, ?_, fun k hk => (c6 k hk).2⟩, fun k hk => (c6 k hk).1, ?_, ?_, ?_, ?_, ?_, ?_, ?_⟩
  · rw [k1, c1]; rfl
  · rw [k1, c1]; rfl
  · rw [k1, c1]; rfl
  · rw [k1, c1]; rfl
  · rw [k1, c1]; rfl
  · rw [k1, c1]; rfl
  · rw [k1, c1]; rfl
  · rw [a6 3 0 (by omega) (by omega), d3]; exact p1.1
  · rw [a6 3 7 (by omega) (by omega), d3]; exact p1.2.1
  · rw [a6 3 8 (by omega) (by omega), d3]; exact p1.2.2.1
  · rw [a6 3 9 (by omega) (by omega), d3]; exact p1.2.2.2.1
  · rw [a6 3 10 (by omega) (by omega), d3]; exact p1.2.2.2.2.1
  · rw [a6 3 11 (by omega) (by omega), d3]; exact p1.2.2.2.2.2.1
  · rw [a6 3 12 (by omega) (by omega), d3]; exact p1.2.2.2.2.2.2
  · rw [a6 12 0 (by omega) (by omega), d12]; exact p2.1
  · rw [a6 12 1 (by omega) (by omega), d12]; exact p2.2.1
  · rw [a6 12 2 (by omega) (by omega), d12]; exact p2.2.2
  · rw [a6 24 0 (by omega) (by omega), z_up_ne (by omega)]; exact p5.1
  · rw [a6 24 2 (by omega) (by omega), z_up_ne (by omega)]; exact p5.2.1
  · rw [a6 24 3 (by omega) (by omega), z_up_ne (by omega)]; exact p5.2.2.1
  · rw [a6 24 4 (by omega) (by omega), z_up_ne (by omega)]; exact p5.2.2.2.1
  · rw [a6 24 9 (by omega) (by omega), z_up_ne (by omega)]; exact p5.2.2.2.2
  · rw [a6 32 1 (by omega) (by omega), z_up_ne (by omega)]; exact t5.1
  · rw [a6 32 9 (by omega) (by omega), z_up_ne (by omega)]; exact t5.2.1
  · rw [a6 32 10 (by omega) (by omega), z_up_ne (by omega)]; exact t5.2.2
  · intro r hr
    obtain ⟨g1, ⟨g2, g3, g4, g5'⟩, -⟩ := g5 r hr
    refine ⟨?_, ?_, ?_, pt _ (by omega) (by omega) (g4.up (by omega)), pt _ (by omega) (by omega) (g5'.up (by omega))⟩
    · rw [a6 25 r (by omega) (by omega), z_up_ne (by omega)]; exact g1
    · rw [a6 _ 0 (by omega) (by omega), z_up_ne (by omega)]; exact g2
    · rw [a6 _ 1 (by omega) (by omega), z_up_ne (by omega)]; exact g3
  · intro a j ha
    rw [b6 a j (by omega), y5 a j (by omega), z0_ne (by omega), y4 a j (by omega), z0_ne (by omega), y3 a j (by omega), z0_ne (by omega), y2 a j (by omega), z0_ne (by omega), z0_ne (by omega), y1 a j (by omega), z0_ne (by omega), ← hB, z0_ne (by omega)]
  · rw [b6 12 3 (by omega), y5 12 3 (by omega), z0_ne (by omega), y4 12 3 (by omega), z0_ne (by omega), y3 12 3 (by omega), z0_ne (by omega), y2 12 3 (by omega)]
    exact if_pos rfl
  · rw [b6 16 0 (by omega), y5 16 0 (by omega), z0_ne (by omega), y4 16 0 (by omega), z0_ne (by omega), y3 16 0 (by omega)]
    exact if_pos rfl
  · rw [b6 24 1 (by omega), y5 24 1 (by omega)]
    exact if_pos rfl
  · rw [b6 32 0 (by omega)]; exact b5
  · intro r hr
    rw [b6 _ 5 (by omega)]
    exact (g5 r hr).2.2
  · rw [b6 36 2 (by omega)]; exact i5
