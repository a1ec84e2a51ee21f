/-! Whether two states are the same -/
def STx (μ : Nat → Nat → Int) (a b : Nat) (j : Nat) : Prop := μ (a + 2) j = μ (b + 2) j ∧ ∀ i : Nat, (i : Int) < μ (a + 2) j → μ (a + 3) (24 * j + i) = μ (b + 3) (24 * j + i)
def SSt (μ : Nat → Nat → Int) (a b : Nat) : Prop := μ a 0 = μ b 0 ∧ ∀ l : Nat, (l : Int) < μ a 0 → μ (a + 1) l = μ (b + 1) l ∧ STx μ a b (2 * l) ∧ STx μ a b (2 * l + 1)
section Sam
variable {L : Nat} {ρ : Nat → Nat → Nat} {μ : Nat → Nat → Int} {a b : Nat}
theorem e_sameTL (ha : stS L a) (hb : stS L b) (ra : stR ρ a) (rb : stR ρ b) {j : Nat} (hj : j < 10) (h24 : μ (a + 2) j ≤ 24) : ∀ (m N i : Nat) (s : Int), i + m = 24 → m < N → (s = 0 ∨ s = 1) → ∃ z : Int, f_St_isSameText_24 N a b (j : Int) s (i : Int) (SH L, ρ, μ) = some (z, (SH L, ρ, μ)) ∧ ((z = 1 ∧ s = 1 ∧ ∀ i' : Nat, i ≤ i' → (i' : Int) < μ (a + 2) j → μ (a + 3) (24 * j + i') = μ (b + 3) (24 * j + i')) ∨ (z = 0 ∧ ¬ (s = 1 ∧ ∀ i' : Nat, i ≤ i' → (i' : Int) < μ (a + 2) j → μ (a + 3) (24 * j + i') = μ (b + 3) (24 * j + i')))) := by
  intro m
  induction m with
  | zero =>
    intro N i s hi hN hs
    obtain ⟨N, rfl⟩ : ∃ k, N = k + 1 := ⟨N - 1, by omega⟩
    refine ⟨s, ?_, ?_⟩
    · rw [f_St_isSameText_24]
      show (z_gR _ _ _ _).bind _ = _
      rw [zgR_k ha.1 ra.2.1 (by omega), Option.bind_some, zaI_k ha.2.2.1 (by omega) (by omega), Option.bind_some, Int.toNat_natCast, if_pos (by omega)]
      unfold z_bo
      rw [if_pos hs, Option.bind_some]
    · obtain hs | hs := hs
      · exact Or.inr ⟨hs, fun h => by omega⟩
      · exact Or.inl ⟨hs, hs, fun i' h1 h2 => by omega⟩
  | succ m ih =>
    intro N i s hi hN hs
    obtain ⟨N, rfl⟩ : ∃ k, N = k + 1 := ⟨N - 1, by omega⟩
    rw [f_St_isSameText_24]
    show ∃ z : Int, (z_gR _ _ _ _).bind _ = _ ∧ _
    rw [zgR_k ha.1 ra.2.1 (by omega), Option.bind_some, zaI_k ha.2.2.1 (by omega) (by omega), Option.bind_some, Int.toNat_natCast]
    by_cases h1 : μ (a + 2) j ≤ (i : Int)
    · rw [if_pos h1]
      unfold z_bo
      rw [if_pos hs, Option.bind_some]
      refine ⟨s, rfl, ?_⟩
      obtain hs | hs := hs
      · exact Or.inr ⟨hs, fun h => by omega⟩
      · exact Or.inl ⟨hs, hs, fun i' g1 g2 => by omega⟩
    rw [if_neg h1]
    obtain hs | hs := hs
    · subst hs
      rw [if_pos rfl]
      unfold z_bo
      rw [if_pos (Or.inl rfl), Option.bind_some]
      exact ⟨0, rfl, Or.inr ⟨rfl, fun h => by omega⟩⟩
    subst hs
    have t : ((j : Int) * 24 + (i : Int)).toNat = 24 * j + i := by omega
    rw [if_neg (by decide), zgR_k ha.1 ra.2.2 (by omega), Option.bind_some, zw_of (x := (j : Int) * 24) (by omega) (by omega), zw_of (x := (j : Int) * 24 + (i : Int)) (by omega) (by omega), zaI_k ha.2.2.2 (by omega) (by omega), Option.bind_some, zgR_k hb.1 rb.2.2 (by omega), Option.bind_some, zaI_k hb.2.2.2 (by omega) (by omega), Option.bind_some, t]
    unfold f_St_isSameText_71
    rw [zw_of (x := (i : Int) + 1) (by omega) (by omega)]
    by_cases h2 : μ (a + 3) (24 * j + i) = μ (b + 3) (24 * j + i)
    · rw [if_pos h2]
      obtain ⟨z, e1, e2⟩ := ih N (i + 1) 1 (by omega) (by omega) (Or.inr rfl)
      rw [show ((i + 1 : Nat) : Int) = (i : Int) + 1 by omega] at e1
      refine ⟨z, e1, ?_⟩
      obtain ⟨z1, z2, z3⟩ | ⟨z1, z2⟩ := e2
      · refine Or.inl ⟨z1, rfl, fun i' g1 g2 => ?_⟩
        by_cases hi' : i' = i
        · rw [hi']; exact h2
        · exact z3 i' (by omega) g2
      · exact Or.inr ⟨z1, fun h => z2 ⟨rfl, fun i' g1 g2 => h.2 i' (by omega) g2⟩⟩
    · rw [if_neg h2]
      obtain ⟨z, e1, e2⟩ := ih N (i + 1) 0 (by omega) (by omega) (Or.inl rfl)
      rw [show ((i + 1 : Nat) : Int) = (i : Int) + 1 by omega] at e1
      refine ⟨z, e1, Or.inr ⟨?_, fun h => h2 (h.2 i (Nat.le_refl _) (by omega))⟩⟩
      obtain ⟨z1, z2, z3⟩ | ⟨z1, z2⟩ := e2
      · omega
      · exact z1
theorem e_sameT (ha : stS L a) (hb : stS L b) (ra : stR ρ a) (rb : stR ρ b) {j : Nat} (hj : j < 10) (h24 : μ (a + 2) j ≤ 24) : ∃ z : Int, f_St_isSameText a b (j : Int) (SH L, ρ, μ) = some (z, (SH L, ρ, μ)) ∧ ((z = 1 ∧ STx μ a b j) ∨ (z = 0 ∧ ¬ STx μ a b j)) := by
  unfold f_St_isSameText f_St_isSameText_20
  rw [zgR_k ha.1 ra.2.1 (by omega), Option.bind_some, zaI_k ha.2.2.1 (by omega) (by omega), Option.bind_some, zgR_k hb.1 rb.2.1 (by omega), Option.bind_some, zaI_k hb.2.2.1 (by omega) (by omega), Option.bind_some, Int.toNat_natCast]
  by_cases h : μ (a + 2) j = μ (b + 2) j
  · rw [if_pos h]
    obtain ⟨z, e1, e2⟩ := e_sameTL ha hb ra rb hj h24 24 100000 0 1 (by omega) (by omega) (Or.inr rfl)
    refine ⟨z, e1, ?_⟩
    obtain ⟨z1, z2, z3⟩ | ⟨z1, z2⟩ := e2
    · exact Or.inl ⟨z1, h, fun i hi => z3 i (Nat.zero_le _) hi⟩
    · exact Or.inr ⟨z1, fun g => z2 ⟨rfl, fun i _ hi => g.2 i hi⟩⟩
  · rw [if_neg h]
    obtain ⟨z, e1, e2⟩ := e_sameTL ha hb ra rb hj h24 24 100000 0 0 (by omega) (by omega) (Or.inl rfl)
    refine ⟨z, e1, Or.inr ⟨?_, fun g => h g.1⟩⟩
    obtain ⟨z1, z2, z3⟩ | ⟨z1, z2⟩ := e2
    · omega
    · exact z1
theorem e_sameL (ha : stS L a) (hb : stS L b) (ra : stR ρ a) (rb : stR ρ b) (h0 : 0 ≤ μ a 0) (h5 : μ a 0 ≤ 5) (h24 : ∀ j : Nat, (j : Int) < 2 * μ a 0 → μ (a + 2) j ≤ 24) : ∀ (m N l : Nat) (s : Int), l + m = 5 → m < N → (s = 0 ∨ s = 1) → ∃ z : Int, f_St_isSame_19 N a b s (l : Int) (SH L, ρ, μ) = some (z, (SH L, ρ, μ)) ∧ ((z = 1 ∧ s = 1 ∧ ∀ i : Nat, l ≤ i → (i : Int) < μ a 0 → μ (a + 1) i = μ (b + 1) i ∧ STx μ a b (2 * i) ∧ STx μ a b (2 * i + 1)) ∨ (z = 0 ∧ ¬ (s = 1 ∧ ∀ i : Nat, l ≤ i → (i : Int) < μ a 0 → μ (a + 1) i = μ (b + 1) i ∧ STx μ a b (2 * i) ∧ STx μ a b (2 * i + 1)))) := by
  intro m
  induction m with
  | zero =>
    intro N l s hi hN hs
    obtain ⟨N, rfl⟩ : ∃ k, N = k + 1 := ⟨N - 1, by omega⟩
    refine ⟨s, ?_, ?_⟩
    · rw [f_St_isSame_19]
      show (z_gI _ _ _ _).bind _ = _
      rw [zgI_k ha.1, Option.bind_some, if_pos (by omega)]
      unfold z_bo
      rw [if_pos hs, Option.bind_some]
    · obtain hs | hs := hs
      · exact Or.inr ⟨hs, fun h => by omega⟩
      · exact Or.inl ⟨hs, hs, fun i' h1 h2 => by omega⟩
  | succ m ih =>
    intro N l s hi hN hs
    obtain ⟨N, rfl⟩ : ∃ k, N = k + 1 := ⟨N - 1, by omega⟩
    rw [f_St_isSame_19]
    show ∃ z : Int, (z_gI _ _ _ _).bind _ = _ ∧ _
    rw [zgI_k ha.1, Option.bind_some]
    by_cases h1 : μ a 0 ≤ (l : Int)
    · rw [if_pos h1]
      unfold z_bo
      rw [if_pos hs, Option.bind_some]
      refine ⟨s, rfl, ?_⟩
      obtain hs | hs := hs
      · exact Or.inr ⟨hs, fun h => by omega⟩
      · exact Or.inl ⟨hs, hs, fun i' g1 g2 => by omega⟩
    rw [if_neg h1]
    obtain hs | hs := hs
    · subst hs
      rw [if_pos rfl]
      unfold z_bo
      rw [if_pos (Or.inl rfl), Option.bind_some]
      exact ⟨0, rfl, Or.inr ⟨rfl, fun h => by omega⟩⟩
    subst hs
    rw [if_neg (by decide), zgR_k ha.1 ra.1 (by omega), Option.bind_some, zaI_k ha.2.1 (by omega) (by omega), Option.bind_some, zgR_k hb.1 rb.1 (by omega), Option.bind_some, zaI_k hb.2.1 (by omega) (by omega), Option.bind_some, Int.toNat_natCast]
    unfold f_St_isSame_74 f_St_isSame_75
    rw [zw_of (x := (l : Int) + 1) (by omega) (by omega)]
    have no : (¬ (μ (a + 1) l = μ (b + 1) l ∧ STx μ a b (2 * l) ∧ STx μ a b (2 * l + 1))) → ∃ z : Int, f_St_isSame_19 N a b 0 ((l : Int) + 1) (SH L, ρ, μ) = some (z, (SH L, ρ, μ)) ∧ ((z = 1 ∧ (1 : Int) = 1 ∧ ∀ i : Nat, l ≤ i → (i : Int) < μ a 0 → μ (a + 1) i = μ (b + 1) i ∧ STx μ a b (2 * i) ∧ STx μ a b (2 * i + 1)) ∨ (z = 0 ∧ ¬ ((1 : Int) = 1 ∧ ∀ i : Nat, l ≤ i → (i : Int) < μ a 0 → μ (a + 1) i = μ (b + 1) i ∧ STx μ a b (2 * i) ∧ STx μ a b (2 * i + 1)))) := by
      intro hne
      obtain ⟨z, e1, e2⟩ := ih N (l + 1) 0 (by omega) (by omega) (Or.inl rfl)
      rw [show ((l + 1 : Nat) : Int) = (l : Int) + 1 by omega] at e1
      refine ⟨z, e1, Or.inr ⟨?_, fun h => hne (h.2 l (Nat.le_refl _) (by omega))⟩⟩
      obtain ⟨z1, z2, z3⟩ | ⟨z1, z2⟩ := e2
      · omega
      · exact z1
    by_cases h2 : μ (a + 1) l = μ (b + 1) l
    · rw [if_pos h2, zck_k ha.1, Option.bind_some, zw_of (x := (l : Int) * 2) (by omega) (by omega), show (l : Int) * 2 = ((2 * l : Nat) : Int) by omega]
      obtain ⟨z, e1, e2⟩ := e_sameT ha hb ra rb (j := 2 * l) (by omega) (h24 _ (by omega))
      rw [e1, Option.bind_some]
      dsimp only
      obtain ⟨z1, z2⟩ | ⟨z1, z2⟩ := e2
      · subst z1
        rw [if_neg (by decide), zck_k ha.1, Option.bind_some, zw_of (x := ((2 * l : Nat) : Int) + 1) (by omega) (by omega), show ((2 * l : Nat) : Int) + 1 = ((2 * l + 1 : Nat) : Int) by omega]
        obtain ⟨y, e3, e4⟩ := e_sameT ha hb ra rb (j := 2 * l + 1) (by omega) (h24 _ (by omega))
        rw [e3, Option.bind_some]
        dsimp only
        obtain ⟨y1, y2⟩ | ⟨y1, y2⟩ := e4
        · subst y1
          rw [if_neg (by decide)]
          obtain ⟨z, e1, e2⟩ := ih N (l + 1) 1 (by omega) (by omega) (Or.inr rfl)
          rw [show ((l + 1 : Nat) : Int) = (l : Int) + 1 by omega] at e1
          refine ⟨z, e1, ?_⟩
          obtain ⟨z1, -, z3⟩ | ⟨z1, z3⟩ := e2
          · refine Or.inl ⟨z1, rfl, fun i' g1 g2 => ?_⟩
            by_cases hi' : i' = l
            · rw [hi']
              exact ⟨h2, z2, y2⟩
            · exact z3 i' (by omega) g2
          · exact Or.inr ⟨z1, fun h => z3 ⟨rfl, fun i' g1 g2 => h.2 i' (by omega) g2⟩⟩
        · subst y1
          rw [if_pos rfl]
          exact no fun g => y2 g.2.2
      · subst z1
        rw [if_pos rfl]
        exact no fun g => z2 g.2.1
    · rw [if_neg h2]
      exact no fun g => h2 g.1
theorem e_sameS (ha : stS L a) (hb : stS L b) (ra : stR ρ a) (rb : stR ρ b) (h0 : 0 ≤ μ a 0) (h5 : μ a 0 ≤ 5) (h24 : ∀ j : Nat, (j : Int) < 2 * μ a 0 → μ (a + 2) j ≤ 24) : ∃ z : Int, f_St_isSame a b (SH L, ρ, μ) = some (z, (SH L, ρ, μ)) ∧ ((z = 1 ∧ SSt μ a b) ∨ (z = 0 ∧ ¬ SSt μ a b)) := by
  unfold f_St_isSame f_St_isSame_16
  rw [zgI_k ha.1, Option.bind_some, zgI_k hb.1, Option.bind_some]
  by_cases h : μ a 0 = μ b 0
  · rw [if_pos h]
    obtain ⟨z, e1, e2⟩ := e_sameL ha hb ra rb h0 h5 h24 5 100000 0 1 (by omega) (by omega) (Or.inr rfl)
    refine ⟨z, e1, ?_⟩
    obtain ⟨z1, z2, z3⟩ | ⟨z1, z2⟩ := e2
    · exact Or.inl ⟨z1, h, fun i hi => z3 i (Nat.zero_le _) hi⟩
    · exact Or.inr ⟨z1, fun g => z2 ⟨rfl, fun i _ hi => g.2 i hi⟩⟩
  · rw [if_neg h]
    obtain ⟨z, e1, e2⟩ := e_sameL ha hb ra rb h0 h5 h24 5 100000 0 0 (by omega) (by omega) (Or.inl rfl)
    refine ⟨z, e1, Or.inr ⟨?_, fun g => h g.1⟩⟩
    obtain ⟨z1, z2, z3⟩ | ⟨z1, z2⟩ := e2
    · omega
    · exact z1
end Sam
