/-! What of the invariant stays when other cells change; wipe, theme, type -/
theorem RTheme.fr {μ ν μ' ν' : Nat → Nat → Int} (h : RTheme μ ν) (h1 : μ' 12 3 = μ 12 3) (h2 : ∀ c j, 13 ≤ c → c ≤ 15 → μ' c j = μ c j) (h3 : ν' 233 48 = ν 233 48) (h4 : ∀ c j, 269 ≤ c → c ≤ 271 → ν' c j = ν c j) : RTheme μ' ν' := by
  obtain ⟨a, b, c, d⟩ := h
  unfold RTheme
  rw [h1, h3]
  refine ⟨a, b, c, fun e he => ?_⟩
  rw [h4 269 e (by omega) (by omega), h4 270 e (by omega) (by omega), h4 271 e (by omega) (by omega), h2 13 e (by omega) (by omega), h2 14 e (by omega) (by omega), h2 15 e (by omega) (by omega)]
  exact d e he
theorem RDraft.fr {μ ν μ' ν' : Nat → Nat → Int} (h : RDraft μ ν) (h1 : μ' 1 1 = μ 1 1) (h2 : ∀ j, μ' 2 j = μ 2 j) (h3 : ν' 233 1 = ν 233 1) (h4 : ∀ j, ν' 234 j = ν 234 j) : RDraft μ' ν' := by
  obtain ⟨a, b, c, d⟩ := h
  unfold RDraft
  rw [h1, h3]
  refine ⟨a, b, c, fun j hj => ?_⟩
  rw [h2, h4]
  exact d j hj
theorem RPat.fr {μ ν μ' ν' : Nat → Nat → Int} {p pt : Nat} {en : Bool} (h : RPat μ ν p pt en) (h1 : ∀ c j, p ≤ c → c < p + 6 → μ' c j = μ c j) (h2 : ∀ j, j = pt → ν' 239 j = ν 239 j ∧ ν' 247 j = ν 247 j) (h3 : ∀ c j, 240 ≤ c → c ≤ 246 → 21 * pt ≤ j → j < 21 * pt + 21 → ν' c j = ν c j) : RPat μ' ν' p pt en := by
  obtain ⟨hn, γ, hg⟩ := h
  have e := h2 pt rfl
  refine ⟨by rw [e.1]; exact hn, γ, ?_⟩
  have kC : codOf μ' p = codOf μ p := by
    unfold codOf
    rw [show μ' (p + 1) = μ (p + 1) from funext fun j => h1 _ j (by omega) (by omega), show μ' (p + 2) = μ (p + 2) from funext fun j => h1 _ j (by omega) (by omega), show μ' (p + 3) = μ (p + 3) from funext fun j => h1 _ j (by omega) (by omega), show μ' (p + 4) = μ (p + 4) from funext fun j => h1 _ j (by omega) (by omega), show μ' (p + 5) = μ (p + 5) from funext fun j => h1 _ j (by omega) (by omega)]
  rw [kC]
  refine hg.ag ⟨?_, ?_, rfl, e.2, fun i hi => ⟨h3 241 _ (by omega) (by omega) (by omega) (by omega), h3 242 _ (by omega) (by omega) (by omega) (by omega), h3 243 _ (by omega) (by omega) (by omega) (by omega), h3 244 _ (by omega) (by omega) (by omega) (by omega), h3 245 _ (by omega) (by omega) (by omega) (by omega), h3 246 _ (by omega) (by omega) (by omega) (by omega)⟩⟩
  · funext i
    show tA ν' pt i = tA ν pt i
    unfold tA
    rw [e.1]
    by_cases hi : (i : Int) < ν 239 pt
    · rw [if_pos hi, if_pos hi, h3 240 _ (by omega) (by omega) (by omega) (by omega)]
    · rw [if_neg hi, if_neg hi]
  · show (ν' 239 pt).toNat = (ν 239 pt).toNat
    rw [e.1]
/-- the rules stay: those that are there, and every 'included' -/
theorem RRules.fr {μ ν μ' ν' : Nat → Nat → Int} (h : RRules μ ν) (h24 : μ' 24 1 = μ 24 1) (hr : ∀ r j off : Nat, (r : Int) ≤ μ 24 1 → off < 13 → μ' (36 + 13 * r + off) j = μ (36 + 13 * r + off) j) (h5 : ∀ r, r < 10 → μ' (36 + 13 * r) 5 = μ (36 + 13 * r) 5) (h3 : ν' 233 3 = ν 233 3) (hν : ∀ c j, 235 ≤ c → c ≤ 238 → ν' c j = ν c j)
    (hp : ∀ j, j < 20 → ν' 239 j = ν 239 j ∧ ν' 247 j = ν 247 j) (hq : ∀ c j, 240 ≤ c → c ≤ 246 → j < 420 → ν' c j = ν c j) : RRules μ' ν' := by
  obtain ⟨a, b, c, d, e, f, g⟩ := h
  have hr0 : ∀ r j : Nat, (r : Int) ≤ μ 24 1 → μ' (36 + 13 * r) j = μ (36 + 13 * r) j := fun r j h => hr r j 0 h (by omega)
  unfold RRules
  rw [h24, h3]
  refine ⟨a, b, c, by have := hr0 0 2 (by omega); rw [show (36 : Nat) = 36 + 13 * 0 from rfl, this]; exact d, fun r hr1 => ?_, fun r h1 hr1 => ?_, fun r hr1 => ?_⟩
  · rw [hν 235 r (by omega) (by omega), hr0 r 2 hr1]
    exact e r hr1
  · obtain ⟨f1, f2, f3, f4, f5, f6⟩ := f r h1 hr1
    rw [hν 236 r (by omega) (by omega), hν 237 r (by omega) (by omega), hr0 r 3 hr1, hr0 r 4 hr1, hr0 r 2 hr1]
    have hpt : ∀ (p pt : Nat) (en : Bool), pt < 20 → (∃ o, o + 5 < 13 ∧ p = 36 + 13 * r + o) → RPat μ ν p pt en → RPat μ' ν' p pt en := by
      intro p pt en hpt ⟨o, ho, ep⟩ hR
      subst ep
      refine hR.fr (fun c j h7 h8 => ?_) (fun j hj => by subst hj; exact hp _ hpt) (fun c j h7 h8 h9 h10 => hq c j h7 h8 (by omega))
      obtain ⟨w, rfl⟩ : ∃ w, c = 36 + 13 * r + w := ⟨c - (36 + 13 * r), by omega⟩
      exact hr r j w hr1 (by omega)
    refine ⟨f1, f2, f3, f4, hpt _ _ _ (by omega) ⟨1, by omega, by omega⟩ f5, fun h2 => hpt _ _ _ (by omega) ⟨7, by omega, by omega⟩ (f6 h2)⟩
  · rw [hν 238 r (by omega) (by omega), h5 r hr1]
    exact g r hr1
theorem RSt.fr {μ ν μ' ν' : Nat → Nat → Int} {s x : Nat} (h : RSt μ ν s x) (hs : ∀ c j, s ≤ c → c ≤ s + 3 → μ' c j = μ c j) (h24 : μ' 24 1 = μ 24 1) (hr : ∀ r : Nat, (r : Int) ≤ μ 24 1 → μ' (36 + 13 * r) 2 = μ (36 + 13 * r) 2) (h1 : ν' 263 x = ν 263 x) (h2 : ∀ j, 5 * x ≤ j → j < 5 * x + 5 → ν' 264 j = ν 264 j) (h3 : ∀ j, 10 * x ≤ j → j < 10 * x + 10 → ν' 265 j = ν 265 j) (h4 : ∀ j, 240 * x ≤ j → j < 240 * x + 240 → ν' 266 j = ν 266 j) : RSt μ' ν' s x := by
  obtain ⟨a, b, c, d, e⟩ := h
  have s0 := fun j => hs s j (Nat.le_refl _) (by omega)
  have s1 := fun j => hs (s + 1) j (by omega) (by omega)
  have s2 := fun j => hs (s + 2) j (by omega) (by omega)
  have s3 := fun j => hs (s + 3) j (by omega) (by omega)
  unfold RSt
  rw [s0, h1, h24]
  refine ⟨a, b, c, fun l hl => ?_, fun j hj => ?_⟩
  · obtain ⟨d1, d2, d3, d4⟩ := d l hl
    rw [h2 _ (by omega) (by omega), s1, hr _ (by omega)]
    exact ⟨d1, d2, d3, d4⟩
  · obtain ⟨e1, e3, e4⟩ := e j hj
    rw [h3 _ (by omega) (by omega), s2]
    refine ⟨e1, e3, fun q hq => ?_⟩
    rw [h4 _ (by omega) (by omega), s3]
    exact e4 q hq
theorem RLn.fr {μ ν μ' ν' : Nat → Nat → Int} {l k : Nat} (h : RLn μ ν l k) (hl : ∀ c j, l ≤ c → c ≤ l + 8 → μ' c j = μ c j) (h24 : μ' 24 1 = μ 24 1) (hr : ∀ r : Nat, (r : Int) ≤ μ 24 1 → μ' (36 + 13 * r) 2 = μ (36 + 13 * r) 2) (h0 : ∀ c, c = 256 ∨ c = 258 ∨ c = 259 ∨ c = 263 → ν' c k = ν c k) (ha : ∀ c j, c = 257 ∨ c = 260 ∨ c = 261 → 24 * k ≤ j → j < 24 * k + 24 → ν' c j = ν c j) (hb : ∀ j, 144 * k ≤ j → j < 144 * k + 144 → ν' 262 j = ν 262 j)
    (h2 : ∀ j, 5 * k ≤ j → j < 5 * k + 5 → ν' 264 j = ν 264 j) (h3 : ∀ j, 10 * k ≤ j → j < 10 * k + 10 → ν' 265 j = ν 265 j) (h4 : ∀ j, 240 * k ≤ j → j < 240 * k + 240 → ν' 266 j = ν 266 j) : RLn μ' ν' l k := by
  obtain ⟨⟨a1, a2, a3, a4⟩, ⟨b1, b2⟩, ⟨c1, c2, c3, c4⟩, d⟩ := h
  have l0 := fun j => hl l j (Nat.le_refl _) (by omega)
  have l1 := fun j => hl (l + 1) j (by omega) (by omega)
  have l2 := fun j => hl (l + 2) j (by omega) (by omega)
  have l3 := fun j => hl (l + 3) j (by omega) (by omega)
  have l4 := fun j => hl (l + 4) j (by omega) (by omega)
  unfold RLn
  rw [l0, l0, l0, h0 256 (by omega), h0 258 (by omega), h0 259 (by omega)]
  refine ⟨⟨a1, a2, a3, fun c hc => ?_⟩, ⟨b1, b2⟩, ⟨c1, c2, c3, fun t ht => ?_⟩, d.fr (fun c j g1 g2 => hl c j (by omega) (by omega)) h24 hr (h0 263 (by omega)) h2 h3 h4⟩
  · rw [ha 257 _ (by omega) (by omega) (by omega), l1]
    exact a4 c hc
  · obtain ⟨e1, e2, e3, e4, e5⟩ := c4 t ht
    rw [ha 260 _ (by omega) (by omega) (by omega), ha 261 _ (by omega) (by omega) (by omega), l2, l3]
    refine ⟨e1, e2, e3, e4, fun i hi => ?_⟩
    rw [hb _ (by omega) (by omega), l4]
    exact e5 i hi
/-- the lines stay, and the rules that they name -/
theorem RLines.fr {ρ : Nat → Nat → Nat} {μ ν μ' ν' : Nat → Nat → Int} (h : RLines ρ μ ν) (hd : Dc ρ) (h15 : μ' 1 5 = μ 1 5) (h16 : μ' 1 6 = μ 1 6) (h24 : μ' 24 1 = μ 24 1) (hr : ∀ r : Nat, (r : Int) ≤ μ 24 1 → μ' (36 + 13 * r) 2 = μ (36 + 13 * r) 2) (hl : ∀ c j, 179 ≤ c → c < 233 → μ' c j = μ c j) (n30 : ν' 233 30 = ν 233 30) (n31 : ν' 233 31 = ν 233 31)
    (ha : ∀ c j, 256 ≤ c → c ≤ 262 → ν' c j = ν c j) (h1 : ∀ j, j < 6 → ν' 263 j = ν 263 j) (h2 : ∀ j, j < 30 → ν' 264 j = ν 264 j) (h3 : ∀ j, j < 60 → ν' 265 j = ν 265 j) (h4 : ∀ j, j < 1440 → ν' 266 j = ν 266 j) : RLines ρ μ' ν' := by
  obtain ⟨a, b, c, d, e⟩ := h
  unfold RLines
  rw [h15, h16, n30, n31]
  refine ⟨a, b, c, d, fun k hk => ?_⟩
  obtain ⟨q, hq, eq⟩ := hd.1 k (by omega)
  have hln := e k hk
  rw [eq] at hln ⊢
  refine hln.fr (fun c j g1 g2 => hl c j (by omega) (by omega)) h24 hr (fun c hc => ?_) (fun c j hc g1 g2 => ha c j (by omega) (by omega)) (fun j g1 g2 => ha 262 j (by omega) (by omega)) (fun j g1 g2 => h2 j (by omega)) (fun j g1 g2 => h3 j (by omega)) (fun j g1 g2 => h4 j (by omega))
  rcases hc with rfl | rfl | rfl | rfl
  · exact ha _ _ (by omega) (by omega)
  · exact ha _ _ (by omega) (by omega)
  · exact ha _ _ (by omega) (by omega)
  · exact h1 k (by omega)
theorem c_wipe (L : Nat) : CaseV L (f_SL_wipe 1) (f_Mo_wipe 233) := by
  intro ρ μ hI
  obtain ⟨rc, rm, dc, rd, rr, rl, rt, rb, rn⟩ := hI
  have r9 := rr.2.1
  have up : ∀ c j, ¬ (c = 1 ∧ j = 1) → ¬ (c = 233 ∧ j = 1) → z_up (z_up μ 1 1 0) 233 1 0 c j = μ c j := by
    intro c j h1 h2
    unfold z_up
    rw [if_neg h2, if_neg h1]
  refine ⟨ρ, z_up μ 1 1 0, z_up (z_up μ 1 1 0) 233 1 0, ?_, ?_, ⟨rc, rm, dc, ?_, ?_, ?_, ?_, ?_, ?_⟩, fun j => z_up_ne (by decide), fun j => up 0 j (by omega) (by omega)⟩
  · unfold f_SL_wipe
    rw [zpI_k s_1, Option.bind_some]
  · unfold f_Mo_wipe
    rw [zpI_k s_233, Option.bind_some]
  · unfold RDraft
    rw [z_up_ne (by decide), z_up_eq, z_up_eq]
    exact ⟨by omega, by omega, rfl, fun j hj => by omega⟩
  · exact rr.fr (up _ _ (by omega) (by omega)) (fun r j off h1 h2 => up _ _ (by omega) (by omega)) (fun r h1 => up _ _ (by omega) (by omega)) (up _ _ (by omega) (by omega)) (fun c j h1 h2 => up _ _ (by omega) (by omega)) (fun j hj => ⟨up _ _ (by omega) (by omega), up _ _ (by omega) (by omega)⟩) (fun c j h1 h2 h3 => up _ _ (by omega) (by omega))
  · exact rl.fr dc (up _ _ (by omega) (by omega)) (up _ _ (by omega) (by omega)) (up _ _ (by omega) (by omega)) (fun r h1 => up _ _ (by omega) (by omega)) (fun c j h1 h2 => up _ _ (by omega) (by omega)) (up _ _ (by omega) (by omega)) (up _ _ (by omega) (by omega)) (fun c j h1 h2 => up _ _ (by omega) (by omega)) (fun j h1 => up _ _ (by omega) (by omega)) (fun j h1 => up _ _ (by omega) (by omega)) (fun j h1 => up _ _ (by omega) (by omega)) (fun j h1 => up _ _ (by omega) (by omega))
  · exact rt.fr (up _ _ (by omega) (by omega)) (fun c j h1 h2 => up _ _ (by omega) (by omega)) (up _ _ (by omega) (by omega)) (fun c j h1 h2 => up _ _ (by omega) (by omega))
  · rw [up 233 0 (by omega) (by omega), up 32 0 (by omega) (by omega)]
    exact rb
  · rw [up 16 0 (by omega) (by omega), up 1 6 (by omega) (by omega)]
    exact rn
theorem e_isScope {S : List (Nat × Nat)} (ρ : Nat → Nat → Nat) (μ : Nat → Nat → Int) (x : Int) : f_SL_isScope x (S, ρ, μ) = some (if 1 ≤ x ∧ x ≤ 99 then 1 else 0, (S, ρ, μ)) := by
  unfold f_SL_isScope
  by_cases h0 : x < 1
  · rw [if_pos h0, if_neg (by omega)]
  · rw [if_neg h0]
    by_cases h1 : 99 < x
    · rw [if_pos h1, if_neg (by omega)]
    · rw [if_neg h1, if_pos (by omega)]
/-- what theme leaves of the class's cells -/
def u_thS (μ : Nat → Nat → Int) (a b c : Int) : Nat → Nat → Int := z_up (z_up (z_up (z_up μ 13 (μ 12 3).toNat a) 14 (μ 12 3).toNat b) 15 (μ 12 3).toNat c) 12 3 (μ 12 3 + 1)
def u_thM (μ : Nat → Nat → Int) (a b c : Int) : Nat → Nat → Int := z_up (z_up (z_up (z_up μ 269 (μ 233 48).toNat a) 270 (μ 233 48).toNat b) 271 (μ 233 48).toNat c) 233 48 (μ 233 48 + 1)
theorem e_themeS {L : Nat} {ρ : Nat → Nat → Nat} {μ : Nat → Nat → Int} (hc : Rc ρ) (h0 : 0 ≤ μ 12 3) (h6 : μ 12 3 ≤ 6) (a b c : Int) : f_SL_theme 1 a b c (SH L, ρ, μ) = if (1 ≤ a ∧ a ≤ 99) ∧ (0 ≤ b ∧ b ≤ 99) ∧ (1 ≤ c ∧ c ≤ 255) ∧ μ 12 3 ≠ 6 then some (1, (SH L, ρ, u_thS μ a b c)) else some (0, (SH L, ρ, μ)) := by
  unfold f_SL_theme
  rw [e_isScope, Option.bind_some]
  dsimp only
  by_cases ha : 1 ≤ a ∧ a ≤ 99
  · rw [if_pos ha, if_neg (by decide)]
    by_cases hb0 : b < 0
    · rw [if_pos hb0, if_neg (by omega)]
    rw [if_neg hb0]
    by_cases hb9 : b ≤ 99
    · rw [if_pos hb9]
      by_cases hc1 : c < 1
      · rw [if_pos hc1, if_neg (by omega)]
      rw [if_neg hc1]
      by_cases hc2 : 255 < c
      · rw [if_pos hc2, if_neg (by omega)]
      rw [if_neg hc2]
      have g7 : ∀ μ', z_gR (SH L, ρ, μ') 0 1 7 = some 12 := fun μ' => zgR_k s_1 hc.1.2.2.2.2.1 (by decide)
      rw [g7, Option.bind_some, zgI_k s_12, Option.bind_some]
      by_cases h66 : μ 12 3 = 6
      · rw [if_pos h66, if_neg (by omega)]
      rw [if_neg h66, if_pos ⟨ha, by omega, by omega, h66⟩]
      simp (disch := omega) only [f_Pa_add, g7, zck_k s_12, Option.bind_some, zgR_k s_12 hc.2.2.1.1 (by decide), zgR_k s_12 hc.2.2.1.2.1 (by decide), zgR_k s_12 hc.2.2.1.2.2 (by decide), zgI_k s_12, zsI_k s_13, zsI_k s_14, zsI_k s_15, zpI_k s_12, z_up_ne, zw_of]
      rfl
    · rw [if_neg hb9, if_neg (by omega)]
  · rw [if_neg ha, if_pos rfl, if_neg (fun q => ha q.1)]
theorem e_themeM {L : Nat} {ρ : Nat → Nat → Nat} {μ : Nat → Nat → Int} (hm : Rm ρ) (h0 : 0 ≤ μ 233 48) (h6 : μ 233 48 ≤ 6) (a b c : Int) : f_Mo_theme 233 a b c (SH L, ρ, μ) = if (1 ≤ a ∧ a ≤ 99) ∧ (0 ≤ b ∧ b ≤ 99) ∧ (1 ≤ c ∧ c ≤ 255) ∧ μ 233 48 ≠ 6 then some (1, (SH L, ρ, u_thM μ a b c)) else some (0, (SH L, ρ, μ)) := by
  unfold f_Mo_theme
  by_cases ha1 : a < 1
  · rw [if_pos ha1, if_neg (by omega)]
  rw [if_neg ha1]
  by_cases ha2 : 99 < a
  · rw [if_pos ha2, if_neg (by omega)]
  rw [if_neg ha2]
  by_cases hb1 : b < 0
  · rw [if_pos hb1, if_neg (by omega)]
  rw [if_neg hb1]
  by_cases hb2 : 99 < b
  · rw [if_pos hb2, if_neg (by omega)]
  rw [if_neg hb2]
  by_cases hc1 : c < 1
  · rw [if_pos hc1, if_neg (by omega)]
  rw [if_neg hc1]
  by_cases hc2 : 255 < c
  · rw [if_pos hc2, if_neg (by omega)]
  rw [if_neg hc2, zgI_k s_233, Option.bind_some]
  by_cases h66 : μ 233 48 = 6
  · rw [if_pos h66, if_neg (by omega)]
  rw [if_neg h66, if_pos ⟨by omega, by omega, by omega, h66⟩]
  simp (disch := omega) only [Option.bind_some, zgR_k s_233 (m_49 hm) (by decide), zgR_k s_233 (m_50 hm) (by decide), zgR_k s_233 (m_51 hm) (by decide), zgI_k s_233, zsI_k s_269, zsI_k s_270, zsI_k s_271, zpI_k s_233, z_up_ne, zw_of]
  rfl
theorem c_theme (L : Nat) (a b c : Int) : CaseR L (f_SL_theme 1 a b c) (f_Mo_theme 233 a b c) := by
  intro ρ μ hI
  have hI0 := hI
  obtain ⟨rc, rm, dc, rd, rr, rl, rt, rb, rn⟩ := hI
  have r9 := rr.2.1
  obtain ⟨t0, t6, te, tt⟩ := rt
  rw [e_themeS rc t0 t6]
  by_cases hc : (1 ≤ a ∧ a ≤ 99) ∧ (0 ≤ b ∧ b ≤ 99) ∧ (1 ≤ c ∧ c ≤ 255) ∧ μ 12 3 ≠ 6
  · rw [if_pos hc]
    have lowS : ∀ q j, ¬ (12 ≤ q ∧ q ≤ 15) → u_thS μ a b c q j = μ q j := by
      intro q j hq
      unfold u_thS
      rw [z_up_ne (by omega), z_up_ne (by omega), z_up_ne (by omega), z_up_ne (by omega)]
    have e48 : u_thS μ a b c 233 48 = μ 12 3 := (lowS 233 48 (by omega)).trans te
    have eM := e_themeM (L := L) (ρ := ρ) (μ := u_thS μ a b c) rm (by rw [e48]; exact t0) (by rw [e48]; exact t6) a b c
    rw [e48, if_pos hc] at eM
    have lowM : ∀ q j, ¬ (q = 233 ∧ j = 48) → ¬ (269 ≤ q ∧ q ≤ 271) → u_thM (u_thS μ a b c) a b c q j = u_thS μ a b c q j := by
      intro q j hq hq2
      unfold u_thM
      rw [z_up, if_neg hq, z_up_ne (by omega), z_up_ne (by omega), z_up_ne (by omega)]
    have up : ∀ q j, ¬ (12 ≤ q ∧ q ≤ 15) → ¬ (q = 233 ∧ j = 48) → ¬ (269 ≤ q ∧ q ≤ 271) → u_thM (u_thS μ a b c) a b c q j = μ q j := fun q j h1 h2 h3 => (lowM q j h2 h3).trans (lowS q j h1)
    refine ⟨1, ρ, _, _, rfl, eM, ⟨rc, rm, dc, ?_, ?_, ?_, ?_, ?_, ?_⟩, fun j => lowS 0 j (by omega), fun j => up 0 j (by omega) (by omega) (by omega)⟩
    · exact rd.fr (up _ _ (by omega) (by omega) (by omega)) (fun j => up _ _ (by omega) (by omega) (by omega)) (up _ _ (by omega) (by omega) (by omega)) (fun j => up _ _ (by omega) (by omega) (by omega))
    · exact rr.fr (up _ _ (by omega) (by omega) (by omega)) (fun r j off h1 h2 => up _ _ (by omega) (by omega) (by omega)) (fun r h1 => up _ _ (by omega) (by omega) (by omega)) (up _ _ (by omega) (by omega) (by omega)) (fun c j h1 h2 => up _ _ (by omega) (by omega) (by omega)) (fun j hj => ⟨up _ _ (by omega) (by omega) (by omega), up _ _ (by omega) (by omega) (by omega)⟩) (fun c j h1 h2 h3 => up _ _ (by omega) (by omega) (by omega))
    · exact rl.fr dc (up _ _ (by omega) (by omega) (by omega)) (up _ _ (by omega) (by omega) (by omega)) (up _ _ (by omega) (by omega) (by omega)) (fun r h1 => up _ _ (by omega) (by omega) (by omega)) (fun c j h1 h2 => up _ _ (by omega) (by omega) (by omega)) (up _ _ (by omega) (by omega) (by omega)) (up _ _ (by omega) (by omega) (by omega)) (fun c j h1 h2 => up _ _ (by omega) (by omega) (by omega)) (fun j h1 => up _ _ (by omega) (by omega) (by omega)) (fun j h1 => up _ _ (by omega) (by omega) (by omega)) (fun j h1 => up _ _ (by omega) (by omega) (by omega)) (fun j h1 => up _ _ (by omega) (by omega) (by omega))
    · have f12 : u_thM (u_thS μ a b c) a b c 12 3 = μ 12 3 + 1 := by rw [lowM 12 3 (by omega) (by omega)]; exact z_up_eq
      have f48 : u_thM (u_thS μ a b c) a b c 233 48 = μ 12 3 + 1 := by unfold u_thM; rw [z_up_eq, e48]
      have g13 : ∀ e, u_thM (u_thS μ a b c) a b c 13 e = if e = (μ 12 3).toNat then a else μ 13 e := by
        intro e
        rw [lowM 13 e (by omega) (by omega)]
        unfold u_thS
        rw [z_up_ne (by decide), z_up_ne (by decide), z_up_ne (by decide)]
        unfold z_up
        simp
      have g14 : ∀ e, u_thM (u_thS μ a b c) a b c 14 e = if e = (μ 12 3).toNat then b else μ 14 e := by
        intro e
        rw [lowM 14 e (by omega) (by omega)]
        unfold u_thS
        rw [z_up_ne (by decide), z_up_ne (by decide)]
        unfold z_up
        simp
      have g15 : ∀ e, u_thM (u_thS μ a b c) a b c 15 e = if e = (μ 12 3).toNat then c else μ 15 e := by
        intro e
        rw [lowM 15 e (by omega) (by omega)]
        unfold u_thS
        rw [z_up_ne (by decide)]
        unfold z_up
        simp
      have g269 : ∀ e, u_thM (u_thS μ a b c) a b c 269 e = if e = (μ 12 3).toNat then a else μ 269 e := by
        intro e
        unfold u_thM
        rw [z_up_ne (by decide), z_up_ne (by decide), z_up_ne (by decide), e48]
        have := lowS 269 e (by omega)
        unfold z_up
        simp [this]
      have g270 : ∀ e, u_thM (u_thS μ a b c) a b c 270 e = if e = (μ 12 3).toNat then b else μ 270 e := by
        intro e
        unfold u_thM
        rw [z_up_ne (by decide), z_up_ne (by decide), e48]
        have := lowS 270 e (by omega)
        unfold z_up
        simp [this]
      have g271 : ∀ e, u_thM (u_thS μ a b c) a b c 271 e = if e = (μ 12 3).toNat then c else μ 271 e := by
        intro e
        unfold u_thM
        rw [z_up_ne (by decide), e48]
        have := lowS 271 e (by omega)
        unfold z_up
        simp [this]
      unfold RTheme
      rw [f12, f48]
      refine ⟨by omega, by omega, rfl, fun e he => ?_⟩
      rw [g13, g14, g15, g269, g270, g271]
      by_cases hee : e = (μ 12 3).toNat
      · simp only [if_pos hee]
        exact ⟨trivial, trivial, trivial, by omega, by omega⟩
      · simp only [if_neg hee]
        exact tt e (by omega)
    · rw [up 233 0 (by omega) (by omega) (by omega), up 32 0 (by omega) (by omega) (by omega)]
      exact rb
    · rw [up 16 0 (by omega) (by omega) (by omega), up 1 6 (by omega) (by omega) (by omega)]
      exact rn
  · rw [if_neg hc]
    have eM := e_themeM (L := L) (ρ := ρ) (μ := μ) rm (by rw [te]; exact t0) (by rw [te]; exact t6) a b c
    rw [te, if_neg hc] at eM
    exact ⟨0, ρ, μ, μ, rfl, eM, hI0, fun _ => rfl, fun _ => rfl⟩
