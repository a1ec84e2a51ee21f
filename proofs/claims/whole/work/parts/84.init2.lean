/-! The grammar, the object, the model -/
theorem zw_nat {r : Nat} (h : r < 1000000) : zw ((r : Int) + 1) = ((r + 1 : Nat) : Int) := by
  rw [zw_of (by omega) (by omega)]
  omega
theorem s_ru {L r : Nat} (hr : r < 11) : ruS L (36 + 13 * r) := ⟨sr_0 hr, ⟨sr_1 hr, sr_2 hr, sr_3 hr, sr_4 hr, sr_5 hr, sr_6 hr⟩, ⟨sr_7 hr, sr_8 hr, sr_9 hr, sr_10 hr, sr_11 hr, sr_12 hr⟩⟩
theorem s_ln {L k : Nat} (hk : k < 6) : lnS L (179 + 9 * k) := ⟨sl_0 hk, sl_1 hk, sl_2 hk, sl_3 hk, sl_4 hk, ⟨sl_5 hk, sl_6 hk, sl_7 hk, sl_8 hk⟩⟩
/-- the rules that are made -/
def grR (ρ : Nat → Nat → Nat) (μ : Nat → Nat → Int) (r : Nat) : Prop := ∀ q, q < r → ρ 25 q = 36 + 13 * q ∧ ruR ρ (36 + 13 * q) ∧ μ (36 + 13 * q) 5 = -1
theorem i_GrL (L : Nat) : ∀ (n r : Nat) (ρ : Nat → Nat → Nat) (μ : Nat → Nat → Int), r ≤ 11 → 12 ≤ n + r → ρ 24 0 = 25 → grR ρ μ r → ∃ ρ' μ', f_Gr_init_54 n 24 (r : Int) (TK L (36 + 13 * r), ρ, μ) = some (TK L 179, ρ', μ') ∧ (∀ a j, a < 36 → a ≠ 25 → ρ' a j = ρ a j) ∧ (∀ a j, a < 36 → μ' a j = μ a j) ∧ grR ρ' μ' 11 ∧ μ' 36 2 = 1 := by
  intro n
  induction n with
  | zero =>
    intro r ρ μ h1 h2
    omega
  | succ n ih =>
    intro r ρ μ hr hn h24 hg
    unfold f_Gr_init_54
    have e24 : (TK L (36 + 13 * r))[24]? = some (8, 10) := by rw [tk_at (by omega)]; exact s_24
    have e25 : (TK L (36 + 13 * r))[25]? = some (24, 11) := by rw [tk_at (by omega)]; exact s_25
    rw [zgR_k e24 h24 (by decide), Option.bind_some, zlen_k e25 (by decide), Option.bind_some]
    by_cases hlt : r < 11
    · rw [if_neg (by omega), Option.bind_some, tk_len (show 36 + 13 * r ≤ 272 by omega), tk_new (s_ru hlt).1]
      obtain ⟨ρ1, μ1, e1, x1, y1, p1, q1⟩ := i_Ru (s_ru (L := L) hlt) (z0 ρ (36 + 13 * r)) (z0 μ (36 + 13 * r))
      rw [e1, Option.bind_some]
      have f25 : (TK L (36 + 13 * r + 13))[25]? = some (24, 11) := by rw [tk_at (by omega)]; exact s_25
      have fru : (TK L (36 + 13 * r + 13))[36 + 13 * r]? = some (7, 6) := by rw [tk_at (by omega)]; exact (s_ru hlt).1
      rw [zsR_k f25 fru (by omega) (by omega), Option.bind_some, zw_nat (by omega)]
      have hgo := ih (r + 1) (z_up ρ1 25 (r : Int).toNat (36 + 13 * r)) μ1 (by omega) (by omega) (by rw [z_up_ne (by decide), x1 24 0 (by omega), z0_ne (by omega)]; exact h24) (by
        intro q hq
        by_cases hqr : q = r
        · subst hqr
          refine ⟨by rw [Int.toNat_natCast]; exact z_up_eq, p1.up (by omega) (by omega) (by omega), q1⟩
        · obtain ⟨g1, g2, g3⟩ := hg q (by omega)
          refine ⟨?_, ((g2.of (xt_z0 (c := 36 + 13 * r) (Nat.le_refl _)) (by omega)).of x1 (by omega)).up (by omega) (by omega) (by omega), ?_⟩
          · rw [Int.toNat_natCast, z_up_nj hqr, x1 25 q (by omega), z0_ne (by omega)]
            exact g1
          · rw [y1 _ 5 (by omega), z0_ne (by omega)]
            exact g3)
      rw [show 36 + 13 * (r + 1) = 36 + 13 * r + 13 by omega] at hgo
      obtain ⟨ρ2, μ2, e2, a2, b2, c2, d2⟩ := hgo
      refine ⟨ρ2, μ2, e2, fun a j ha h5 => ?_, fun a j ha => ?_, c2, d2⟩
      · rw [a2 a j ha h5, z_up_ne h5, x1 a j (by omega), z0_ne (by omega)]
      · rw [b2 a j ha, y1 a j (by omega), z0_ne (by omega)]
    · have h11 : r = 11 := by omega
      subst h11
      rw [if_pos (by omega), Option.bind_some, zaR_k e25 (by omega) (by omega) (hg 0 (by omega)).1 (by omega), Option.bind_some]
      have e36 : (TK L (36 + 13 * 11))[36 + 13 * 0]? = some (7, 6) := by rw [tk_at (by omega)]; exact (s_ru (r := 0) (by omega)).1
      rw [zpZ_k e36 (Or.inr rfl), Option.bind_some]
      refine ⟨_, _, rfl, fun a j _ _ => rfl, fun a j ha => z_up_ne (by omega), fun q hq => ?_, z_up_eq⟩
      obtain ⟨g1, g2, g3⟩ := hg q hq
      exact ⟨g1, g2, by rw [z_up_nj (by decide)]; exact g3⟩
theorem i_Pa (L : Nat) (ρ : Nat → Nat → Nat) (μ : Nat → Nat → Int) : ∃ ρ' μ', f_Pa_init 12 (TK L 13, ρ, μ) = some (TK L 16, ρ', μ') ∧ xt 12 ρ ρ' ∧ xt 13 μ μ' ∧ (ρ' 12 0 = 13 ∧ ρ' 12 1 = 14 ∧ ρ' 12 2 = 15) := by
  unfold f_Pa_init
  rw [na (x := 6) (n := 13) s_13 rfl (by decide) s_12 (by omega), na (x := 6) (n := 14) s_14 rfl (by decide) s_12 (by omega), na (x := 6) (n := 15) s_15 rfl (by decide) s_12 (by omega)]
  refine ⟨_, _, rfl, fun a j ha => ?_, fun a j ha => ?_, ?_, ?_, ?_⟩
  · simp only [z_up, z0]
    simp [show a ≠ 12 by omega, show a ≠ 13 by omega, show a ≠ 14 by omega, show a ≠ 15 by omega]
  · simp only [z0]
    simp [show a ≠ 13 by omega, show a ≠ 14 by omega, show a ≠ 15 by omega]
  · simp [z_up, z0]
  · simp [z_up, z0]
  · simp [z_up, z0]
theorem i_Pr (L : Nat) (ρ : Nat → Nat → Nat) (μ : Nat → Nat → Int) : ∃ ρ' μ', f_Pr_init 3 (TK L 4, ρ, μ) = some (TK L 11, ρ', μ') ∧ xt 3 ρ ρ' ∧ xt 4 μ μ' ∧ (ρ' 3 0 = 4 ∧ ρ' 3 7 = 5 ∧ ρ' 3 8 = 6 ∧ ρ' 3 9 = 7 ∧ ρ' 3 10 = 8 ∧ ρ' 3 11 = 9 ∧ ρ' 3 12 = 10) := by
  unfold f_Pr_init
  rw [na (x := 20) (n := 4) s_4 rfl (by decide) s_3 (by omega), na (x := 4) (n := 5) s_5 rfl (by decide) s_3 (by omega), na (x := 4) (n := 6) s_6 rfl (by decide) s_3 (by omega), na (x := 4) (n := 7) s_7 rfl (by decide) s_3 (by omega), na (x := 4) (n := 8) s_8 rfl (by decide) s_3 (by omega), na (x := 4) (n := 9) s_9 rfl (by decide) s_3 (by omega), na (x := 4) (n := 10) s_10 rfl (by decide) s_3 (by omega)]
  refine ⟨_, _, rfl, fun a j ha => ?_, fun a j ha => ?_, ?_, ?_, ?_, ?_, ?_, ?_, ?_⟩
  · simp only [z_up, z0]
    simp [show a ≠ 3 by omega, show a ≠ 4 by omega, show a ≠ 5 by omega, show a ≠ 6 by omega, show a ≠ 7 by omega, show a ≠ 8 by omega, show a ≠ 9 by omega, show a ≠ 10 by omega]
  · simp only [z0]
    simp [show a ≠ 4 by omega, show a ≠ 5 by omega, show a ≠ 6 by omega, show a ≠ 7 by omega, show a ≠ 8 by omega, show a ≠ 9 by omega, show a ≠ 10 by omega]
  · simp [z_up, z0]
  · simp [z_up, z0]
  · simp [z_up, z0]
  · simp [z_up, z0]
  · simp [z_up, z0]
  · simp [z_up, z0]
  · simp [z_up, z0]
theorem i_Se (L : Nat) (b : Int) (ρ : Nat → Nat → Nat) (μ : Nat → Nat → Int) : ∃ ρ' μ', f_Se_init 32 b (TK L 33, ρ, μ) = some (TK L 36, ρ', μ') ∧ xt 32 ρ ρ' ∧ xt 32 μ μ' ∧ (ρ' 32 1 = 33 ∧ ρ' 32 9 = 34 ∧ ρ' 32 10 = 35) ∧ μ' 32 0 = b := by
  unfold f_Se_init
  rw [na (x := 6) (n := 33) s_33 rfl (by decide) s_32 (by omega), na (x := 500) (n := 34) s_34 rfl (by decide) s_32 (by omega), na (x := 500) (n := 35) s_35 rfl (by decide) s_32 (by omega), tk_pI s_32 (by omega), Option.bind_some]
  refine ⟨_, _, rfl, fun a j ha => ?_, fun a j ha => ?_, ⟨?_, ?_, ?_⟩, z_up_eq⟩
  · simp only [z_up, z0]
    simp [show a ≠ 32 by omega, show a ≠ 33 by omega, show a ≠ 34 by omega, show a ≠ 35 by omega]
  · simp only [z_up, z0]
    simp [show a ≠ 32 by omega, show a ≠ 33 by omega, show a ≠ 34 by omega, show a ≠ 35 by omega]
  · simp [z_up, z0]
  · simp [z_up, z0]
  · simp [z_up, z0]
theorem s_st16 {L : Nat} : stS L 16 := ⟨s_16, s_17, s_18, s_19⟩
theorem s_st20 {L : Nat} : stS L 20 := ⟨s_20, s_21, s_22, s_23⟩
theorem s_st26 {L : Nat} : stS L 26 := ⟨s_26, s_27, s_28, s_29⟩
def r24 (ρ : Nat → Nat → Nat) : Prop := ρ 24 0 = 25 ∧ ρ 24 2 = 32 ∧ ρ 24 3 = 26 ∧ ρ 24 4 = 30 ∧ ρ 24 9 = 31
theorem i_Gr (L : Nat) (b : Int) (ρ : Nat → Nat → Nat) (μ : Nat → Nat → Int) : ∃ ρ' μ', f_Gr_init 24 b (TK L 25, ρ, μ) = some (TK L 179, ρ', μ') ∧ xt 24 ρ ρ' ∧ xt 25 μ μ' ∧ r24 ρ' ∧ stR ρ' 26 ∧ (ρ' 32 1 = 33 ∧ ρ' 32 9 = 34 ∧ ρ' 32 10 = 35) ∧ μ' 32 0 = b ∧ grR ρ' μ' 11 ∧ μ' 36 2 = 1 := by
  unfold f_Gr_init
  rw [na (x := 11) (n := 25) s_25 rfl (by decide) s_24 (by omega), tk_len (show 25 + 1 ≤ 272 by omega), tk_new s_26]
  generalize hρ0 : z_up (z0 ρ 25) 24 0 25 = ρ0
  obtain ⟨ρ1, μ1, e1, x1, y1, p1⟩ := i_St (L := L) s_st26 (z0 ρ0 26) (z0 (z0 μ 25) 26)
  rw [e1, Option.bind_some, tk_pR s_24 (by omega), Option.bind_some, na (x := 19) (n := 30) s_30 rfl (by decide) s_24 (by omega), na (x := 6) (n := 31) s_31 rfl (by decide) s_24 (by omega), tk_len (show 31 + 1 ≤ 272 by omega), tk_new s_32]
  generalize hρ2 : z_up (z0 (z_up (z0 (z_up ρ1 24 3 26) 30) 24 4 30) 31) 24 9 31 = ρ2
  obtain ⟨ρ3, μ3, e3, x3, y3, p3, b3⟩ := i_Se L b (z0 ρ2 32) (z0 (z0 (z0 μ1 30) 31) 32)
  rw [e3, Option.bind_some, tk_pR s_24 (by omega), Option.bind_some]
  have k0 : ∀ j, ρ0 24 j = if j = 0 then 25 else ρ 24 j := by
    intro j
    rw [← hρ0]
    by_cases hj : j = 0
    · subst hj
      simp [z_up]
    · simp [z_up, z0, hj]
  have k3 : ∀ j, z_up ρ3 24 2 32 24 j = if j = 2 then 32 else if j = 9 then 31 else if j = 4 then 30 else if j = 3 then 26 else ρ0 24 j := by
    intro j
    by_cases h2 : j = 2
    · subst h2
      simp [z_up]
    · rw [z_up_nj h2, x3 24 j (by omega), z0_ne (by omega), ← hρ2, if_neg h2]
      by_cases h9 : j = 9
      · subst h9
        simp [z_up]
      · rw [z_up_nj h9, z0_ne (by omega), if_neg h9]
        by_cases h4 : j = 4
        · subst h4
          simp [z_up]
        · rw [z_up_nj h4, z0_ne (by omega), if_neg h4]
          by_cases h3 : j = 3
          · subst h3
            simp [z_up]
          · rw [z_up_nj h3, if_neg h3, x1 24 j (by omega), z0_ne (by omega)]
  have hlo : ∀ a j, a < 24 → z_up ρ3 24 2 32 a j = ρ a j := by
    intro a j ha
    rw [z_up_ne (by omega), x3 a j (by omega), z0_ne (by omega), ← hρ2, z_up_ne (by omega), z0_ne (by omega), z_up_ne (by omega), z0_ne (by omega), z_up_ne (by omega), x1 a j (by omega), z0_ne (by omega), ← hρ0, z_up_ne (by omega), z0_ne (by omega)]
  have hst : stR (z_up ρ3 24 2 32) 26 := by
    refine stR.up (stR.of ?_ x3 (by omega)) (by omega)
    refine stR.of ?_ (xt_z0 (c := 32) (Nat.le_refl _)) (by omega)
    rw [← hρ2]
    refine stR.up (stR.of (stR.up (stR.of (p1.up (by omega)) (xt_z0 (c := 30) (Nat.le_refl _)) (by omega)) (by omega)) (xt_z0 (c := 31) (Nat.le_refl _)) (by omega)) (by omega)
  have hmu : ∀ a j, a < 25 → μ3 a j = μ a j := by
    intro a j ha
    rw [y3 a j (by omega), z0_ne (by omega), z0_ne (by omega), z0_ne (by omega), y1 a j (by omega), z0_ne (by omega), z0_ne (by omega)]
  obtain ⟨ρ4, μ4, e4, a4, b4, c4, d4⟩ := i_GrL L 100000 0 (z_up ρ3 24 2 32) μ3 (by omega) (by omega) (by rw [k3, k0]; rfl) (fun q hq => by omega)
  have e4 : f_Gr_init_54 100000 24 0 (TK L 36, z_up ρ3 24 2 32, μ3) = some (TK L 179, ρ4, μ4) := e4
  refine ⟨ρ4, μ4, e4, fun a j ha => by rw [a4 a j (by omega) (by omega), hlo a j ha], fun a j ha => by rw [b4 a j (by omega), hmu a j ha], ⟨?_, ?_, ?_, ?_, ?_⟩, ?_, ⟨?_, ?_, ?_⟩, ?_, c4, d4⟩
  · rw [a4 24 0 (by omega) (by omega), k3, k0]; rfl
  · rw [a4 24 2 (by omega) (by omega), k3]; rfl
  · rw [a4 24 3 (by omega) (by omega), k3]; rfl
  · rw [a4 24 4 (by omega) (by omega), k3]; rfl
  · rw [a4 24 9 (by omega) (by omega), k3]; rfl
  · unfold stR at hst ⊢
    rw [a4 26 1 (by omega) (by omega), a4 26 2 (by omega) (by omega), a4 26 3 (by omega) (by omega)]
    exact hst
  · rw [a4 32 1 (by omega) (by omega), z_up_ne (by omega)]; exact p3.1
  · rw [a4 32 9 (by omega) (by omega), z_up_ne (by omega)]; exact p3.2.1
  · rw [a4 32 10 (by omega) (by omega), z_up_ne (by omega)]; exact p3.2.2
  · rw [b4 32 0 (by omega)]; exact b3
