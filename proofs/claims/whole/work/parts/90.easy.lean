/-! The cases that change nothing, wipe and theme -/
theorem CaseR.ro {L : Nat} {fS fM : zH → Option (Int × zH)} (h : ∀ (ρ : Nat → Nat → Nat) (μ : Nat → Nat → Int), Inv ρ μ → ∃ a, fS (SH L, ρ, μ) = some (a, (SH L, ρ, μ)) ∧ fM (SH L, ρ, μ) = some (a, (SH L, ρ, μ))) : CaseR L fS fM := by
  intro ρ μ hI
  obtain ⟨a, h1, h2⟩ := h ρ μ hI
  exact ⟨a, ρ, μ, μ, h1, h2, hI, fun _ => rfl, fun _ => rfl⟩
theorem e_isLineS (L : Nat) (ρ : Nat → Nat → Nat) (μ : Nat → Nat → Int) (k : Int) : f_SL_isLine 1 k (SH L, ρ, μ) = some (if 0 ≤ k ∧ k < μ 1 5 then 1 else 0, (SH L, ρ, μ)) := by
  unfold f_SL_isLine
  by_cases h0 : k < 0
  · rw [if_pos h0, if_neg (by omega)]
  · rw [if_neg h0, zgI_k s_1, Option.bind_some]
    by_cases h1 : μ 1 5 ≤ k
    · rw [if_pos h1, if_neg (by omega)]
    · rw [if_neg h1, if_pos (by omega)]
theorem e_isLineM (L : Nat) (ρ : Nat → Nat → Nat) (μ : Nat → Nat → Int) (k : Int) : f_Mo_isLine 233 k (SH L, ρ, μ) = some (if 0 ≤ k ∧ k < μ 233 30 then 1 else 0, (SH L, ρ, μ)) := by
  unfold f_Mo_isLine
  by_cases h0 : k < 0
  · rw [if_pos h0, if_neg (by omega)]
  · rw [if_neg h0, zgI_k s_233, Option.bind_some]
    by_cases h1 : μ 233 30 ≤ k
    · rw [if_pos h1, if_neg (by omega)]
    · rw [if_neg h1, if_pos (by omega)]
theorem e_isOpen {S : List (Nat × Nat)} {s n : Nat} (ρ : Nat → Nat → Nat) (μ : Nat → Nat → Int) (k : Int) (hs : S[s]? = some (1, n)) : f_St_isOpen s k (S, ρ, μ) = some (if 0 ≤ k ∧ k < μ s 0 then 1 else 0, (S, ρ, μ)) := by
  unfold f_St_isOpen
  by_cases h0 : k < 0
  · rw [if_pos h0, if_neg (by omega)]
  · rw [if_neg h0, zgI_k hs, Option.bind_some]
    by_cases h1 : μ s 0 ≤ k
    · rw [if_pos h1, if_neg (by omega)]
    · rw [if_neg h1, if_pos (by omega)]
/-- a line of the document: its place, its cell -/
theorem Inv.line {ρ : Nat → Nat → Nat} {μ : Nat → Nat → Int} (hI : Inv ρ μ) {k : Int} (hk : 0 ≤ k ∧ k < μ 1 5) : ∃ q : Nat, q < 6 ∧ ρ 11 k.toNat = 179 + 9 * q ∧ k.toNat < 6 ∧ RLn μ μ (179 + 9 * q) k.toNat ∧ lnR ρ (179 + 9 * q) := by
  obtain ⟨rc, rm, dc, rd, rr, rl, rt⟩ := hI
  obtain ⟨l0, l6, -, -, hl⟩ := rl
  have hkn : k.toNat < 6 := by omega
  obtain ⟨q, hq, e⟩ := dc.1 k.toNat hkn
  refine ⟨q, hq, e, hkn, ?_, rc.2.2.2.2.2.2.2 q hq⟩
  rw [← e]
  exact hl k.toNat (by omega)
theorem Inv.nl {ρ : Nat → Nat → Nat} {μ : Nat → Nat → Int} (hI : Inv ρ μ) : μ 233 30 = μ 1 5 ∧ 0 ≤ μ 1 5 ∧ μ 1 5 ≤ 6 := ⟨hI.2.2.2.2.2.1.2.2.1, hI.2.2.2.2.2.1.1, hI.2.2.2.2.2.1.2.1⟩
theorem c_lines (L : Nat) : CaseR L (f_SL_lines 1) (f_Mo_lines 233) := CaseR.ro fun ρ μ hI => ⟨μ 1 5, by unfold f_SL_lines; rw [zgI_k s_1, Option.bind_some], by unfold f_Mo_lines; rw [zgI_k s_233, Option.bind_some, hI.nl.1]⟩
theorem c_passes (L : Nat) : CaseR L (f_SL_passes 1) (f_Mo_passes 233) := CaseR.ro fun ρ μ hI => ⟨μ 1 6, by unfold f_SL_passes; rw [zgI_k s_1, Option.bind_some], by unfold f_Mo_passes; rw [zgI_k s_233, Option.bind_some, hI.2.2.2.2.2.1.2.2.2.1]⟩
theorem e_doc {L : Nat} {ρ : Nat → Nat → Nat} {μ : Nat → Nat → Int} {k : Int} {q : Nat} (hq : q < 6) (h0 : 0 ≤ k) (h6 : k.toNat < 6) (e : ρ 11 k.toNat = 179 + 9 * q) : z_aR (SH L, ρ, μ) 25 11 k = some (179 + 9 * q) := zaR_k s_11 h0 (by omega) e (by omega)
theorem c_length (L : Nat) (k : Int) : CaseR L (f_SL_length 1 k) (f_Mo_length 233 k) := CaseR.ro fun ρ μ hI => by
  obtain ⟨hn, -, -⟩ := hI.nl
  unfold f_SL_length f_Mo_length
  rw [zck_k s_1, Option.bind_some, e_isLineS, Option.bind_some, zck_k s_233, Option.bind_some, e_isLineM, Option.bind_some, hn]
  dsimp only
  by_cases hk : 0 ≤ k ∧ k < μ 1 5
  · rw [if_pos hk, if_neg (by decide), if_neg (by decide)]
    obtain ⟨q, hq, e, h6, hl, lr⟩ := hI.line hk
    rw [zgR_k s_1 hI.1.1.2.2.2.1 (by decide), Option.bind_some, e_doc hq hk.1 h6 e, Option.bind_some, zgI_k (sl_0 hq), Option.bind_some, zgR_k s_233 (m_32 hI.2.1) (by decide), Option.bind_some, zaI_k s_256 hk.1 (by omega), Option.bind_some]
    exact ⟨μ (179 + 9 * q) 1, rfl, by rw [hl.1.2.2.1]⟩
  · rw [if_neg hk, if_pos rfl, if_pos rfl]
    exact ⟨_, rfl, rfl⟩
theorem c_tokens (L : Nat) (k : Int) : CaseR L (f_SL_tokens 1 k) (f_Mo_tokens 233 k) := CaseR.ro fun ρ μ hI => by
  obtain ⟨hn, -, -⟩ := hI.nl
  unfold f_SL_tokens f_Mo_tokens
  rw [zck_k s_1, Option.bind_some, e_isLineS, Option.bind_some, zck_k s_233, Option.bind_some, e_isLineM, Option.bind_some, hn]
  dsimp only
  by_cases hk : 0 ≤ k ∧ k < μ 1 5
  · rw [if_pos hk, if_neg (by decide), if_neg (by decide)]
    obtain ⟨q, hq, e, h6, hl, lr⟩ := hI.line hk
    rw [zgR_k s_1 hI.1.1.2.2.2.1 (by decide), Option.bind_some, e_doc hq hk.1 h6 e, Option.bind_some, zgI_k (sl_0 hq), Option.bind_some, zgR_k s_233 (m_35 hI.2.1) (by decide), Option.bind_some, zaI_k s_259 hk.1 (by omega), Option.bind_some]
    exact ⟨μ (179 + 9 * q) 5, rfl, by rw [hl.2.2.1.2.2.1]⟩
  · rw [if_neg hk, if_pos rfl, if_pos rfl]
    exact ⟨_, rfl, rfl⟩
theorem c_marked (L : Nat) (k : Int) : CaseR L (f_SL_marked 1 k) (f_Mo_marked 233 k) := CaseR.ro fun ρ μ hI => by
  obtain ⟨hn, -, -⟩ := hI.nl
  unfold f_SL_marked f_Mo_marked
  rw [zck_k s_1, Option.bind_some, e_isLineS, Option.bind_some, zck_k s_233, Option.bind_some, e_isLineM, Option.bind_some, hn]
  dsimp only
  by_cases hk : 0 ≤ k ∧ k < μ 1 5
  · rw [if_pos hk, if_neg (by decide), if_neg (by decide)]
    obtain ⟨q, hq, e, h6, hl, lr⟩ := hI.line hk
    rw [zgR_k s_1 hI.1.1.2.2.2.1 (by decide), Option.bind_some, e_doc hq hk.1 h6 e, Option.bind_some, zgI_k (sl_0 hq), Option.bind_some, zgR_k s_233 (m_34 hI.2.1) (by decide), Option.bind_some, zaI_k s_258 hk.1 (by omega), Option.bind_some, hl.2.1.1]
    by_cases hz : μ (179 + 9 * q) 6 = 0
    · simp only [if_pos hz]
      exact ⟨_, rfl, rfl⟩
    · simp only [if_neg hz]
      exact ⟨_, rfl, rfl⟩
  · rw [if_neg hk, if_pos rfl, if_pos rfl]
    exact ⟨_, rfl, rfl⟩
theorem c_state (L : Nat) (k l : Int) : CaseR L (f_SL_state 1 k l) (f_Mo_state 233 k l) := CaseR.ro fun ρ μ hI => by
  obtain ⟨hn, -, -⟩ := hI.nl
  unfold f_SL_state f_Mo_state
  rw [zck_k s_1, Option.bind_some, e_isLineS, Option.bind_some, zck_k s_233, Option.bind_some, e_isLineM, Option.bind_some, hn]
  dsimp only
  by_cases hk : 0 ≤ k ∧ k < μ 1 5
  · rw [if_pos hk, if_neg (by decide), if_neg (by decide)]
    obtain ⟨q, hq, e, h6, hl, lr⟩ := hI.line hk
    obtain ⟨o0, o5, oe, orr, -⟩ := hl.2.2.2
    rw [zgR_k s_1 hI.1.1.2.2.2.1 (by decide), Option.bind_some, e_doc hq hk.1 h6 e, Option.bind_some, zgR_k (sl_0 hq) lr.2.2.2.2.1 (by omega), Option.bind_some]
    have hd : z_gR (SH L, ρ, μ) 9 233 39 = some 263 := zgR_k s_233 (m_39 hI.2.1) (by decide)
    have ho : z_gR (SH L, ρ, μ) 9 233 40 = some 264 := zgR_k s_233 (m_40 hI.2.1) (by decide)
    have hdk : z_aI (SH L, ρ, μ) 20 263 k = some (μ (179 + 9 * q + 5) 0) := by rw [zaI_k s_263 hk.1 (by omega), oe]
    by_cases h1 : l = -1
    · rw [if_pos h1, zgI_k (sl_5 hq), Option.bind_some, if_pos (by omega), if_neg (by omega), hd, Option.bind_some, hdk, Option.bind_some]
      exact ⟨_, rfl, rfl⟩
    · rw [if_neg h1, zck_k (sl_5 hq), Option.bind_some, e_isOpen ρ μ l (sl_5 hq), Option.bind_some]
      dsimp only
      by_cases hlo : 0 ≤ l ∧ l < μ (179 + 9 * q + 5) 0
      · rw [if_pos hlo, if_neg (by decide), if_pos (by omega), if_pos hlo.1, hd, Option.bind_some, hdk, Option.bind_some, if_neg (by omega), ho, Option.bind_some, zw_of (x := 5 * k) (by omega) (by omega), zw_of (by omega) (by omega), zaI_k s_264 (by omega) (by omega), Option.bind_some, zgR_k (sl_5 hq) lr.2.2.2.2.2.1 (by omega), Option.bind_some, zaI_k (sl_6 hq) hlo.1 (by omega), Option.bind_some]
        have := (orr l.toNat (by omega)).1
        rw [show 5 * k.toNat + l.toNat = (5 * k + l).toNat by omega] at this
        exact ⟨_, rfl, by rw [this]⟩
      · rw [if_neg hlo, if_pos rfl]
        by_cases h2 : -1 ≤ l
        · rw [if_pos h2, if_pos (by omega), hd, Option.bind_some, hdk, Option.bind_some, if_pos (by omega)]
          exact ⟨_, rfl, rfl⟩
        · rw [if_neg h2]
          exact ⟨_, rfl, rfl⟩
  · rw [if_neg hk, if_pos rfl, if_pos rfl]
    exact ⟨_, rfl, rfl⟩
theorem c_text (L : Nat) (k l t : Int) : CaseR L (f_SL_text 1 k l t) (f_Mo_text 233 k l t) := CaseR.ro fun ρ μ hI => by
  obtain ⟨hn, -, -⟩ := hI.nl
  unfold f_SL_text f_Mo_text
  rw [zck_k s_1, Option.bind_some, e_isLineS, Option.bind_some, zck_k s_233, Option.bind_some, e_isLineM, Option.bind_some, hn]
  dsimp only
  by_cases hk : 0 ≤ k ∧ k < μ 1 5
  · simp only [if_pos hk]
    obtain ⟨q, hq, e, h6, hl, lr⟩ := hI.line hk
    obtain ⟨o0, o5, oe, -, ot⟩ := hl.2.2.2
    have h4 : z_gR (SH L, ρ, μ) 0 1 4 = some 11 := zgR_k s_1 hI.1.1.2.2.2.1 (by decide)
    have hdoc := e_doc (L := L) (μ := μ) hq hk.1 h6 e
    have hend : z_gR (SH L, ρ, μ) 2 (179 + 9 * q) 7 = some (179 + 9 * q + 5) := zgR_k (sl_0 hq) lr.2.2.2.2.1 (by omega)
    have hd : z_gR (SH L, ρ, μ) 9 233 39 = some 263 := zgR_k s_233 (m_39 hI.2.1) (by decide)
    have ho : z_gR (SH L, ρ, μ) 9 233 41 = some 265 := zgR_k s_233 (m_41 hI.2.1) (by decide)
    have hdk : z_aI (SH L, ρ, μ) 20 263 k = some (μ (179 + 9 * q + 5) 0) := by rw [zaI_k s_263 hk.1 (by omega), oe]
    refine ⟨if 1 ≤ t ∧ t ≤ 2 ∧ 0 ≤ l ∧ l < μ (179 + 9 * q + 5) 0 then μ (179 + 9 * q + 7) (l * 2 + t - 1).toNat else -1, ?_, ?_⟩
    · rw [if_neg (by decide)]
      by_cases h1 : t < 1
      · rw [if_pos h1, if_neg (by omega)]
      · rw [if_neg h1]
        by_cases h2 : 2 < t
        · rw [if_pos h2, if_neg (by omega)]
        · rw [if_neg h2, h4, Option.bind_some, hdoc, Option.bind_some, hend, Option.bind_some, zck_k (sl_5 hq), Option.bind_some, e_isOpen ρ μ l (sl_5 hq), Option.bind_some]
          dsimp only
          by_cases hlo : 0 ≤ l ∧ l < μ (179 + 9 * q + 5) 0
          · simp only [if_pos hlo]
            rw [if_neg (by decide), h4, Option.bind_some, hdoc, Option.bind_some, hend, Option.bind_some, zck_k (sl_5 hq), Option.bind_some]
            unfold f_St_textLength
            rw [zgR_k (sl_5 hq) lr.2.2.2.2.2.2.1 (by omega), Option.bind_some, zw_of (x := l * 2) (by omega) (by omega), zw_of (x := l * 2 + t) (by omega) (by omega), zw_of (x := l * 2 + t - 1) (by omega) (by omega), zaI_k (sl_7 hq) (by omega) (by omega), Option.bind_some, Option.bind_some, if_pos (by omega)]
          · simp only [if_neg hlo]
            rw [if_pos trivial, if_neg (by omega)]
    · rw [if_neg (by decide)]
      by_cases h0 : l < 0
      · rw [if_pos h0, if_neg (by omega)]
      · rw [if_neg h0]
        by_cases h1 : t < 1
        · rw [if_pos h1, if_neg (by omega)]
        · rw [if_neg h1]
          by_cases h2 : t ≤ 2
          · rw [if_pos h2, hd, Option.bind_some, hdk, Option.bind_some]
            by_cases h3 : μ (179 + 9 * q + 5) 0 ≤ l
            · rw [if_pos h3, if_neg (by omega)]
            · rw [if_neg h3, ho, Option.bind_some, zw_of (x := 10 * k) (by omega) (by omega), zw_of (x := 2 * l) (by omega) (by omega), zw_of (x := 10 * k + 2 * l) (by omega) (by omega), zw_of (x := 10 * k + 2 * l + t) (by omega) (by omega), zw_of (x := 10 * k + 2 * l + t - 1) (by omega) (by omega), zaI_k s_265 (by omega) (by omega), Option.bind_some, if_pos (by omega)]
              have := (ot (l * 2 + t - 1).toNat (by omega)).1
              rw [show 10 * k.toNat + (l * 2 + t - 1).toNat = (10 * k + 2 * l + t - 1).toNat by omega] at this
              rw [this]
          · rw [if_neg h2, if_neg (by omega)]
  · simp only [if_neg hk]
    exact ⟨_, rfl, rfl⟩
