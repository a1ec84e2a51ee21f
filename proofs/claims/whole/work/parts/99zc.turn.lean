/-! One turn of tokenize: what the model and the class do with the winner -/
theorem z_up_self {α : Type} (f : Nat → Nat → α) (c j : Nat) : z_up f c j (f c j) = f := by
  funext a b
  unfold z_up
  by_cases h : a = c ∧ b = j
  · rw [if_pos h, h.1, h.2]
  · rw [if_neg h]
section Trn
variable {L : Nat} {ρ : Nat → Nat → Nat} {ν ν1 : Nat → Nat → Int} {k : Nat} {q : Int} {N n : Nat}
theorem tm_last (rm : Rm ρ) (hk : k < 6) (hn : n < 100) {K : Nat → Int → Int → Int → Int → zH → Option zH} : f_Mo_tokenize_190 K 233 (k : Int) q (n : Int) (SH L, ρ, ν1) = (f_Mo_cutOff 233 (k : Int) q (ν1 256 k) 0 (SH L, ρ, ν1)).bind fun h6 => K 233 (k : Int) q 0 ((n + 1 : Nat) : Int) h6 := by
  unfold f_Mo_tokenize_190 f_Mo_tokenize_301
  rw [zgR_k s_233 (m_32 rm) (by decide), Option.bind_some, zaI_k s_256 (by omega) (by omega), Option.bind_some, zck_k s_233, Option.bind_some, Int.toNat_natCast, zw_of (by omega) (by omega), show ((n + 1 : Nat) : Int) = (n : Int) + 1 by omega]
theorem tm_none (hn : n < 100) (hf : f_Mo_findBest 233 (k : Int) q (SH L, ρ, ν) = some (1, (SH L, ρ, ν1))) (h44 : ν1 233 44 = -1) : f_Mo_tokenize_36 (N + 1) 233 (k : Int) q 1 (n : Int) (SH L, ρ, ν) = f_Mo_tokenize_190 (f_Mo_tokenize_36 N) 233 (k : Int) q (n : Int) (SH L, ρ, ν1) := by
  rw [f_Mo_tokenize_36]
  show (if _ then _ else _) = _
  unfold f_Mo_tokenize_122 f_Mo_tokenize_123 f_Mo_tokenize_151 f_Mo_tokenize_152
  rw [if_neg (by omega), if_neg (by decide), zck_k s_233, Option.bind_some, hf, Option.bind_some]
  dsimp only
  simp only [zgI_k s_233, Option.bind_some, h44]
  rfl
theorem tm_close (hn : n < 100) (hf : f_Mo_findBest 233 (k : Int) q (SH L, ρ, ν) = some (1, (SH L, ρ, ν1))) {i : Nat} (hi : i ≤ 10) (h44 : ν1 233 44 = ((2 * i + 1 : Nat) : Int)) : f_Mo_tokenize_36 (N + 1) 233 (k : Int) q 1 (n : Int) (SH L, ρ, ν) = f_Mo_tokenize_208 (f_Mo_tokenize_36 N) 233 (k : Int) q 1 (n : Int) (i : Int) 1 0 (SH L, ρ, ν1) := by
  have d1 : ((2 * i + 1 : Nat) : Int).tdiv 2 = (i : Int) := by
    show (((2 * i + 1) / 2 : Nat) : Int) = (i : Int)
    congr 1
    omega
  have f1 : ¬ ((2 * i + 1 : Nat) : Int) < 0 := by omega
  have h10 : ¬ (1 : Int) = 0 := by decide
  have hz1 : zw (((2 * i + 1 : Nat) : Int) - (i : Int) * 2) = 1 := by
    rw [zw_of (by omega) (by omega)]
    omega
  have hz2 : zw (i : Int) = (i : Int) := zw_of (by omega) (by omega)
  rw [f_Mo_tokenize_36]
  show (if _ then _ else _) = _
  unfold f_Mo_tokenize_122 f_Mo_tokenize_123 f_Mo_tokenize_151 f_Mo_tokenize_152 f_Mo_tokenize_174
  rw [if_neg (show ¬ (100 : Int) ≤ (n : Int) by clear hz1 hz2; omega), if_neg h10, zck_k s_233, Option.bind_some, hf, Option.bind_some]
  dsimp only
  simp only [zgI_k s_233, Option.bind_some, h44, d1, hz1, hz2, if_neg f1, if_neg h10, ↓reduceIte]
  by_cases hq : ν1 233 46 = q
  · rw [if_pos hq]
  · rw [if_neg hq]
theorem tm_rule1 (hn : n < 100) (hf : f_Mo_findBest 233 (k : Int) q (SH L, ρ, ν) = some (1, (SH L, ρ, ν1))) {a : Nat} (ha : a < 10) (h44 : ν1 233 44 = ((2 * a : Nat) : Int)) : f_Mo_tokenize_36 (N + 1) 233 (k : Int) q 1 (n : Int) (SH L, ρ, ν) = f_Mo_tokenize_123 (f_Mo_tokenize_36 N) 233 (k : Int) q 1 (n : Int) (a : Int) 0 (SH L, ρ, ν1) := by
  have d1 : ((2 * a : Nat) : Int).tdiv 2 = (a : Int) := by
    show (((2 * a) / 2 : Nat) : Int) = (a : Int)
    congr 1
    omega
  have f1 : ¬ ((2 * a : Nat) : Int) < 0 := by omega
  have n1 : ¬ (100 : Int) ≤ (n : Int) := by omega
  have h10 : ¬ (1 : Int) = 0 := by decide
  have h01 : ¬ (0 : Int) = 1 := by decide
  have hz1 : zw (((2 * a : Nat) : Int) - (a : Int) * 2) = 0 := by
    rw [zw_of (by omega) (by omega)]
    omega
  have hz2 : zw (a : Int) = (a : Int) := zw_of (by omega) (by omega)
  rw [f_Mo_tokenize_36]
  show (if _ then _ else _) = _
  unfold f_Mo_tokenize_122
  rw [if_neg n1, if_neg h10, zck_k s_233, Option.bind_some, hf, Option.bind_some]
  dsimp only
  rw [if_neg h10, zgI_k s_233, Option.bind_some, Option.bind_some, h44, if_neg f1, Option.bind_some, d1, hz1, if_neg h01, hz2]
theorem tm_rule2 (rm : Rm ρ) {K : Nat → Int → Int → Int → Int → zH → Option zH} {a : Nat} (ha : a < 10) (h44 : ν1 233 44 = ((2 * a : Nat) : Int)) {rg : Int} (hr : ν1 235 a = rg) (hr1 : rg = 0 ∨ rg = 1) : f_Mo_tokenize_123 K 233 (k : Int) q 1 (n : Int) (a : Int) 0 (SH L, ρ, ν1) = if ν1 233 46 = q ∨ (rg = 1 ∧ ν1 263 6 = 5) then f_Mo_tokenize_190 K 233 (k : Int) q (n : Int) (SH L, ρ, ν1) else f_Mo_tokenize_208 K 233 (k : Int) q 1 (n : Int) (a : Int) 0 rg (SH L, ρ, ν1) := by
  have f1 : ¬ ((2 * a : Nat) : Int) < 0 := by omega
  have h10 : ¬ (1 : Int) = 0 := by decide
  have e52 : ∀ o : Int, (o = 0 ∨ o = 1) → f_Mo_tokenize_152 K 233 (k : Int) q 1 (n : Int) (a : Int) 0 o (SH L, ρ, ν1) = if ν1 233 46 = q ∨ (o = 1 ∧ ν1 263 6 = 5) then f_Mo_tokenize_190 K 233 (k : Int) q (n : Int) (SH L, ρ, ν1) else f_Mo_tokenize_208 K 233 (k : Int) q 1 (n : Int) (a : Int) 0 o (SH L, ρ, ν1) := by
    intro o ho
    unfold f_Mo_tokenize_152 f_Mo_tokenize_174
    rw [zgI_k s_233, Option.bind_some, h44, if_neg f1, zgI_k s_233, Option.bind_some]
    by_cases hq : ν1 233 46 = q
    · rw [if_pos hq, if_pos rfl, if_pos (Or.inl hq)]
    · rw [if_neg hq, zgR_k s_233 (m_39 rm) (by decide), Option.bind_some, zaI_k s_263 (by decide) (by decide), Option.bind_some, show (6 : Int).toNat = 6 from rfl]
      obtain ho | ho := ho
      · rw [if_pos ho, if_neg (by omega)]
      · rw [if_neg (by omega)]
        by_cases h5 : ν1 263 6 = 5
        · rw [if_pos h5, if_pos (Or.inr ⟨ho, h5⟩)]
        · rw [if_neg h5, if_neg (by omega)]
  unfold f_Mo_tokenize_123 f_Mo_tokenize_151
  rw [zgI_k s_233, Option.bind_some, h44, if_neg f1, if_pos rfl, zgR_k s_233 (m_4 rm) (by decide), Option.bind_some, zaI_k s_235 (by omega) (by omega), Option.bind_some, Int.toNat_natCast, hr, e52 0 (Or.inl rfl), e52 1 (Or.inr rfl)]
  obtain hr1 | hr1 := hr1
  · subst hr1
    rw [if_pos rfl]
  · subst hr1
    rw [if_neg h10]
theorem tm_rule (rm : Rm ρ) (hn : n < 100) (hf : f_Mo_findBest 233 (k : Int) q (SH L, ρ, ν) = some (1, (SH L, ρ, ν1))) {a : Nat} (ha : a < 10) (h44 : ν1 233 44 = ((2 * a : Nat) : Int)) {rg : Int} (hr : ν1 235 a = rg) (hr1 : rg = 0 ∨ rg = 1) : f_Mo_tokenize_36 (N + 1) 233 (k : Int) q 1 (n : Int) (SH L, ρ, ν) = if ν1 233 46 = q ∨ (rg = 1 ∧ ν1 263 6 = 5) then f_Mo_tokenize_190 (f_Mo_tokenize_36 N) 233 (k : Int) q (n : Int) (SH L, ρ, ν1) else f_Mo_tokenize_208 (f_Mo_tokenize_36 N) 233 (k : Int) q 1 (n : Int) (a : Int) 0 rg (SH L, ρ, ν1) := (tm_rule1 hn hf ha h44).trans (tm_rule2 rm ha h44 hr hr1)
theorem tm_goC (rm : Rm ρ) (hn : n < 100) {K : Nat → Int → Int → Int → Int → zH → Option zH} {a : Int} {ν2 ν4 : Nat → Nat → Int} (h1 : f_Mo_cutOff 233 (k : Int) q (ν1 233 45) 0 (SH L, ρ, ν1) = some (SH L, ρ, ν2)) (h3 : f_Mo_cutOff 233 (k : Int) (ν2 233 45) (ν2 233 46) 0 (SH L, ρ, ν2) = some (SH L, ρ, ν4)) (h5 : 0 ≤ ν4 263 6 ∧ ν4 263 6 ≤ 5) : f_Mo_tokenize_208 K 233 (k : Int) q 1 (n : Int) a 1 0 (SH L, ρ, ν1) = K 233 (k : Int) (ν4 233 46) 1 ((n + 1 : Nat) : Int) (SH L, ρ, z_up ν4 263 6 (ν4 263 6 - 1)) := by
  unfold f_Mo_tokenize_208 f_Mo_tokenize_231 f_Mo_tokenize_251 f_Mo_tokenize_262 f_Mo_tokenize_295 f_Mo_tokenize_301
  rw [zgI_k s_233, Option.bind_some, zck_k s_233, Option.bind_some, h1, Option.bind_some, if_pos rfl, zgI_k s_233, Option.bind_some, zgI_k s_233, Option.bind_some, if_neg (show ¬ (1 : Int) = 0 by decide), zck_k s_233, Option.bind_some, h3, Option.bind_some, zgR_k s_233 (m_39 rm) (by decide), Option.bind_some, if_neg (show ¬ (1 : Int) = 0 by decide), Option.bind_some, zaI_k s_263 (by decide) (by decide), Option.bind_some, show (6 : Int).toNat = 6 from rfl, zw_of (x := ν4 263 6 - 1) (by omega) (by omega), zsI_k s_263 (by decide) (by decide), Option.bind_some, zgI_k s_233, Option.bind_some, z_up_ne (by decide), zw_of (by omega) (by omega), show ((n + 1 : Nat) : Int) = (n : Int) + 1 by omega]
  rfl
theorem tm_goP (rm : Rm ρ) (hn : n < 100) {K : Nat → Int → Int → Int → Int → zH → Option zH} {a : Nat} (ha : a < 10) {ν2 ν4 : Nat → Nat → Int} (h1 : f_Mo_cutOff 233 (k : Int) q (ν1 233 45) 0 (SH L, ρ, ν1) = some (SH L, ρ, ν2)) (h3 : f_Mo_cutOff 233 (k : Int) (ν2 233 45) (ν2 233 46) (ν2 237 a) (SH L, ρ, ν2) = some (SH L, ρ, ν4)) : f_Mo_tokenize_208 K 233 (k : Int) q 1 (n : Int) (a : Int) 0 0 (SH L, ρ, ν1) = K 233 (k : Int) (ν4 233 46) 1 ((n + 1 : Nat) : Int) (SH L, ρ, ν4) := by
  unfold f_Mo_tokenize_208 f_Mo_tokenize_231 f_Mo_tokenize_251 f_Mo_tokenize_262 f_Mo_tokenize_295 f_Mo_tokenize_301
  rw [zgI_k s_233, Option.bind_some, zck_k s_233, Option.bind_some, h1, Option.bind_some, if_pos rfl, zgI_k s_233, Option.bind_some, zgI_k s_233, Option.bind_some, if_pos rfl, if_pos rfl, zgR_k s_233 (m_6 rm) (by decide), Option.bind_some, zaI_k s_237 (by omega) (by omega), Option.bind_some, Int.toNat_natCast, zck_k s_233, Option.bind_some, h3, Option.bind_some, zgR_k s_233 (m_39 rm) (by decide), Option.bind_some, if_pos rfl, Option.bind_some, zaI_k s_263 (by decide) (by decide), Option.bind_some, show (6 : Int).toNat = 6 from rfl, zsI_k s_263 (by decide) (by decide), Option.bind_some, show (6 : Int).toNat = 6 from rfl, z_up_self, zgI_k s_233, Option.bind_some, zw_of (by omega) (by omega), show ((n + 1 : Nat) : Int) = (n : Int) + 1 by omega]
theorem tm_goO (rm : Rm ρ) (hn : n < 100) {K : Nat → Int → Int → Int → Int → zH → Option zH} {a : Nat} {ν2 ν3 ν4 : Nat → Nat → Int} (h1 : f_Mo_cutOff 233 (k : Int) q (ν1 233 45) 0 (SH L, ρ, ν1) = some (SH L, ρ, ν2)) (h2 : f_Mo_openRange 233 (k : Int) (a : Int) (SH L, ρ, ν2) = some (SH L, ρ, ν3)) (h3 : f_Mo_cutOff 233 (k : Int) (ν3 233 45) (ν3 233 46) 0 (SH L, ρ, ν3) = some (SH L, ρ, ν4)) : f_Mo_tokenize_208 K 233 (k : Int) q 1 (n : Int) (a : Int) 0 1 (SH L, ρ, ν1) = K 233 (k : Int) (ν4 233 46) 1 ((n + 1 : Nat) : Int) (SH L, ρ, ν4) := by
  unfold f_Mo_tokenize_208 f_Mo_tokenize_231 f_Mo_tokenize_251 f_Mo_tokenize_262 f_Mo_tokenize_295 f_Mo_tokenize_301
  rw [zgI_k s_233, Option.bind_some, zck_k s_233, Option.bind_some, h1, Option.bind_some, if_neg (show ¬ (1 : Int) = 0 by decide), zck_k s_233, Option.bind_some, h2, Option.bind_some, zgI_k s_233, Option.bind_some, zgI_k s_233, Option.bind_some, if_pos (show (0 : Int) = 0 from rfl), if_neg (show ¬ (1 : Int) = 0 by decide), zck_k s_233, Option.bind_some, h3, Option.bind_some, zgR_k s_233 (m_39 rm) (by decide), Option.bind_some, if_pos rfl, Option.bind_some, zaI_k s_263 (by decide) (by decide), Option.bind_some, show (6 : Int).toNat = 6 from rfl, zsI_k s_263 (by decide) (by decide), Option.bind_some, show (6 : Int).toNat = 6 from rfl, z_up_self, zgI_k s_233, Option.bind_some, zw_of (by omega) (by omega), show ((n + 1 : Nat) : Int) = (n : Int) + 1 by omega]
end Trn
section Trc
variable {L : Nat} {ρ : Nat → Nat → Nat} {μ : Nat → Nat → Int} {q : Int}
theorem tc_last (rc : Rc ρ) (h6 : -1 ≤ μ 24 6) (h9 : μ 24 6 ≤ 9) (hr : 1 ≤ μ 24 6 → μ (36 + 13 * (μ 24 6).toNat) 2 = 0 ∨ μ (36 + 13 * (μ 24 6).toNat) 2 = 1) : ∃ z, f_Gr_isLast 24 q (SH L, ρ, μ) = some (z, (SH L, ρ, μ)) ∧ ((z = 1 ∧ (μ 24 6 = -1 ∨ (1 ≤ μ 24 6 ∧ (μ 24 8 = q ∨ (μ (36 + 13 * (μ 24 6).toNat) 2 = 1 ∧ μ 26 0 = 5))))) ∨ (z = 0 ∧ ¬ (μ 24 6 = -1 ∨ (1 ≤ μ 24 6 ∧ (μ 24 8 = q ∨ (μ (36 + 13 * (μ 24 6).toNat) 2 = 1 ∧ μ 26 0 = 5)))))) := by
  unfold f_Gr_isLast f_Gr_isLast_22 f_Gr_isLast_57 f_Gr_isLast_58 f_Gr_isLast_71 f_Gr_isLast_75
  rw [zgI_k s_24, Option.bind_some]
  by_cases h1 : μ 24 6 = -1
  · rw [if_pos h1]
    exact ⟨1, rfl, Or.inl ⟨rfl, Or.inl h1⟩⟩
  rw [if_neg h1, Option.bind_some]
  by_cases h2 : μ 24 6 = 0
  · rw [if_pos h2, if_neg (show ¬ (1 : Int) = 0 by decide), if_neg (show ¬ (1 : Int) = 0 by decide), if_pos rfl]
    exact ⟨0, rfl, Or.inr ⟨rfl, by omega⟩⟩
  obtain ⟨a, ha⟩ : ∃ a : Nat, μ 24 6 = a := ⟨(μ 24 6).toNat, by omega⟩
  obtain ⟨-, -, pr3, -, -⟩ := r_pt rc (show a < 11 by omega)
  have hr' := hr (by omega)
  rw [ha, Int.toNat_natCast] at hr'
  rw [if_neg h2, if_pos (show (0 : Int) = 0 from rfl), zgR_k s_24 rc.2.2.2.2.1.1 (by decide), Option.bind_some, Option.bind_some, ha, e_rule pr3 (by omega), Option.bind_some, zgI_k (sr_0 (by omega)), Option.bind_some, zgI_k s_24, zgR_k s_24 rc.2.2.2.2.1.2.2.1 (by decide), Option.bind_some, Option.bind_some, zgI_k s_26, Option.bind_some, Int.toNat_natCast]
  simp only [if_pos (show (0 : Int) = 0 from rfl), if_neg (show ¬ (1 : Int) = 0 by decide), Option.bind_some]
  obtain hr' | hr' := hr'
  · rw [if_pos hr']
    by_cases h3 : μ 24 8 = q
    · rw [if_pos h3]
      exact ⟨1, rfl, Or.inl ⟨rfl, Or.inr ⟨by omega, Or.inl h3⟩⟩⟩
    · rw [if_neg h3]
      exact ⟨0, rfl, Or.inr ⟨rfl, by omega⟩⟩
  · rw [if_neg (by omega)]
    by_cases h4 : μ 26 0 = 5
    · rw [if_pos h4]
      by_cases h3 : μ 24 8 = q
      · rw [if_pos h3]
        exact ⟨1, rfl, Or.inl ⟨rfl, Or.inr ⟨by omega, Or.inl h3⟩⟩⟩
      · rw [if_neg h3]
        exact ⟨1, rfl, Or.inl ⟨rfl, Or.inr ⟨by omega, Or.inr ⟨hr', h4⟩⟩⟩⟩
    · rw [if_neg h4]
      by_cases h3 : μ 24 8 = q
      · rw [if_pos h3]
        exact ⟨1, rfl, Or.inl ⟨rfl, Or.inr ⟨by omega, Or.inl h3⟩⟩⟩
      · rw [if_neg h3]
        exact ⟨0, rfl, Or.inr ⟨rfl, by omega⟩⟩
end Trc
