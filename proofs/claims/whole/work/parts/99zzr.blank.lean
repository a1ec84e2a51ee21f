/-! Blanks -/
section Blk
variable {L : Nat} {ρ : Nat → Nat → Nat} {n : Nat} {c : Nat → Int} {μ ν : Nat → Nat → Int}
theorem e_blankL (rc : Rc ρ) (h1 : μ 3 1 = n) (hn : n ≤ 20) (hc : ∀ j, j < n → μ 4 j = c j) : ∀ (d k N : Nat), k + d = n → d + 1 < N → ∃ z : Int, f_Pr_hasBlank_4 N 3 0 (k : Int) (SH L, ρ, μ) = some (z, (SH L, ρ, μ)) ∧ ((z = 0 ∧ ∀ j, k ≤ j → j < n → c j ≠ 32) ∨ (z = 1 ∧ ∃ j, k ≤ j ∧ j < n ∧ c j = 32)) := by
  intro d
  induction d with
  | zero =>
    intro k N hk hN
    obtain ⟨N, rfl⟩ : ∃ m, N = m + 1 := ⟨N - 1, by omega⟩
    refine ⟨0, ?_, Or.inl ⟨rfl, fun j g1 g2 => by omega⟩⟩
    rw [f_Pr_hasBlank_4]
    show (z_gI _ _ _ _).bind _ = _
    rw [zgI_k s_3, Option.bind_some, h1, if_pos (by omega)]
    unfold z_bo
    rw [if_pos (Or.inl rfl), Option.bind_some]
  | succ d ih =>
    intro k N hk hN
    obtain ⟨N, rfl⟩ : ∃ m, N = m + 2 := ⟨N - 2, by omega⟩
    by_cases g : c k = 32
    · refine ⟨1, ?_, Or.inr ⟨rfl, k, Nat.le_refl _, by omega, g⟩⟩
      rw [f_Pr_hasBlank_4]
      show (z_gI _ _ _ _).bind _ = _
      rw [zgI_k s_3, Option.bind_some, h1, if_neg (by omega), if_pos rfl, zgR_k s_3 rc.2.1.1 (by decide), Option.bind_some, zaI_k s_4 (by omega) (by omega), Option.bind_some, Int.toNat_natCast, hc k (by omega), if_pos g]
      unfold f_Pr_hasBlank_32
      rw [f_Pr_hasBlank_4]
      show (z_gI _ _ _ _).bind _ = _
      rw [zgI_k s_3, Option.bind_some, if_neg (show ¬ (1 : Int) = 0 by decide)]
      unfold z_bo
      rw [if_pos (show (1 : Int) = 0 ∨ (1 : Int) = 1 from Or.inr rfl), Option.bind_some]
      by_cases g2 : μ 3 1 ≤ zw ((k : Int) + 1)
      · rw [if_pos g2]
      · rw [if_neg g2]
    · obtain ⟨z, i1, i2⟩ := ih (k + 1) (N + 1) (by omega) (by omega)
      refine ⟨z, ?_, ?_⟩
      · rw [f_Pr_hasBlank_4]
        show (z_gI _ _ _ _).bind _ = _
        rw [zgI_k s_3, Option.bind_some, h1, if_neg (by omega), if_pos rfl, zgR_k s_3 rc.2.1.1 (by decide), Option.bind_some, zaI_k s_4 (by omega) (by omega), Option.bind_some, Int.toNat_natCast, hc k (by omega), if_neg g]
        unfold f_Pr_hasBlank_32
        rw [zw_of (by omega) (by omega), show (k : Int) + 1 = ((k + 1 : Nat) : Int) by omega]
        exact i1
      · obtain ⟨z1, z2⟩ | ⟨z1, j, z2, z3, z4⟩ := i2
        · refine Or.inl ⟨z1, fun j g1 g2 => ?_⟩
          by_cases e : j = k
          · rw [e]; exact g
          · exact z2 j (by omega) g2
        · exact Or.inr ⟨z1, j, by omega, z3, z4⟩
theorem m_blankL (rm : Rm ρ) {pt : Nat} (hpt : pt < 22) (h9 : ν 239 pt = n) (hn : n ≤ 21) {e : Int} : ∀ (d k N : Nat), k + d = n → d < N → ((∀ j, k ≤ j → j < n → tA ν pt j ≠ 32) ∧ f_Mo_parse_10 N 233 (pt : Int) e (n : Int) (k : Int) (SH L, ρ, ν) = if (n : Int) < 1 then some (0, (SH L, ρ, ν)) else if (n : Int) ≤ 20 then f_Mo_parse_71 100000 233 (pt : Int) e (n : Int) 0 0 0 (SH L, ρ, z_up (z_up (z_up (z_up (z_up ν 248 0 (-1)) 249 0 (-1)) 250 0 0) 251 0 1) 247 pt (-1)) else some (0, (SH L, ρ, ν))) ∨ ((∃ j, k ≤ j ∧ j < n ∧ tA ν pt j = 32) ∧ f_Mo_parse_10 N 233 (pt : Int) e (n : Int) (k : Int) (SH L, ρ, ν) = some (0, (SH L, ρ, ν))) := by
  intro d
  induction d with
  | zero =>
    intro k N hk hN
    obtain ⟨N, rfl⟩ : ∃ m, N = m + 1 := ⟨N - 1, by omega⟩
    refine Or.inl ⟨fun j g1 g2 => by omega, ?_⟩
    rw [f_Mo_parse_10]
    show (if _ then _ else _) = _
    have ol := m_openLv (L := L) (ρ := ρ) (ν := ν) rm (l := 0) (x := -1) (by decide)
    rw [show ((0 : Nat) : Int) = 0 from rfl] at ol
    rw [if_pos (by omega), zck_k s_233, Option.bind_some, ol, Option.bind_some, zgR_k s_233 (m_16 rm) (by decide), Option.bind_some, zsI_k s_247 (by omega) (by omega), Option.bind_some, Int.toNat_natCast]
  | succ d ih =>
    intro k N hk hN
    obtain ⟨N, rfl⟩ : ∃ m, N = m + 1 := ⟨N - 1, by omega⟩
    have st : f_Mo_parse_10 (N + 1) 233 (pt : Int) e (n : Int) (k : Int) (SH L, ρ, ν) = if tA ν pt k = 32 then some (0, (SH L, ρ, ν)) else f_Mo_parse_10 N 233 (pt : Int) e (n : Int) ((k + 1 : Nat) : Int) (SH L, ρ, ν) := by
      rw [f_Mo_parse_10]
      show (if _ then _ else _) = _
      rw [if_neg (by omega), zck_k s_233, Option.bind_some, e_at rm hpt (by omega) k rfl, Option.bind_some]
      dsimp only
      rw [zw_of (by omega) (by omega), show (k : Int) + 1 = ((k + 1 : Nat) : Int) by omega]
    by_cases g : tA ν pt k = 32
    · exact Or.inr ⟨⟨k, Nat.le_refl _, by omega, g⟩, by rw [st, if_pos g]⟩
    · rw [if_neg g] at st
      obtain ⟨z1, z2⟩ | ⟨⟨j, z1, z2, z3⟩, z4⟩ := ih (k + 1) N (by omega) (by omega)
      · refine Or.inl ⟨fun j g1 g2 => ?_, st.trans z2⟩
        by_cases e : j = k
        · rw [e]; exact g
        · exact z1 j (by omega) g2
      · exact Or.inr ⟨⟨j, by omega, z2, z3⟩, st.trans z4⟩
end Blk
