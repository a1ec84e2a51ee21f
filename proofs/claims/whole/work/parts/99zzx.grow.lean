/-! One rule more: the lines stay -/
theorem RSt.gr {μ ν μ' : Nat → Nat → Int} {s x : Nat} (h : RSt μ ν s x) (s6 : 36 ≤ s) (hs : ∀ c j, c ≠ 24 → μ' c j = μ c j) (h24 : μ 24 1 ≤ μ' 24 1) : RSt μ' ν s x := by
  obtain ⟨a, b, c, d, e⟩ := h
  unfold RSt
  rw [hs s 0 (by omega)]
  refine ⟨a, b, c, fun l hl => ?_, fun j hj => ?_⟩
  · obtain ⟨d1, d2, d3, d4⟩ := d l hl
    rw [hs (s + 1) _ (by omega), hs (36 + 13 * _) 2 (by omega)]
    exact ⟨d1, d2, by omega, d4⟩
  · obtain ⟨e1, e3, e4⟩ := e j hj
    rw [hs (s + 2) _ (by omega)]
    refine ⟨e1, e3, fun q hq => ?_⟩
    rw [hs (s + 3) _ (by omega)]
    exact e4 q hq
theorem RLn.gr {μ ν μ' : Nat → Nat → Int} {l k : Nat} (h : RLn μ ν l k) (l6 : 36 ≤ l) (hs : ∀ c j, c ≠ 24 → μ' c j = μ c j) (h24 : μ 24 1 ≤ μ' 24 1) : RLn μ' ν l k := by
  obtain ⟨⟨a1, a2, a3, a4⟩, ⟨b1, b2⟩, ⟨c1, c2, c3, c4⟩, d⟩ := h
  unfold RLn
  rw [hs l 1 (by omega), hs l 6 (by omega), hs l 5 (by omega)]
  refine ⟨⟨a1, a2, a3, fun c hc => ?_⟩, ⟨b1, b2⟩, ⟨c1, c2, c3, fun t ht => ?_⟩, d.gr (by omega) hs h24⟩
  · rw [hs (l + 1) _ (by omega)]
    exact a4 c hc
  · obtain ⟨e1, e2, e3, e4, e5⟩ := c4 t ht
    rw [hs (l + 2) _ (by omega), hs (l + 3) _ (by omega)]
    refine ⟨e1, e2, e3, e4, fun i hi => ?_⟩
    rw [hs (l + 4) _ (by omega)]
    exact e5 i hi
theorem RLines.gr {ρ : Nat → Nat → Nat} {μ ν μ' : Nat → Nat → Int} (h : RLines ρ μ ν) (dc : Dc ρ) (hs : ∀ c j, c ≠ 24 → μ' c j = μ c j) (h24 : μ 24 1 ≤ μ' 24 1) : RLines ρ μ' ν := by
  obtain ⟨a, b, c, d, e⟩ := h
  unfold RLines
  rw [hs 1 5 (by decide), hs 1 6 (by decide)]
  refine ⟨a, b, c, d, fun k hk => ?_⟩
  obtain ⟨q, hq, eq⟩ := dc.1 k (by omega)
  exact (e k hk).gr (by omega) hs h24
/-- one rule more -/
theorem Rel.add {ρ : Nat → Nat → Nat} {μ ν μ' ν' : Nat → Nat → Int} {R r : Nat} {ho sp is : Int} (h : Rel ρ μ ν) (dc : Dc ρ) (hR : μ 24 1 = R) (R9 : R < 9) (hr : r = R + 1) (hsp : 1 ≤ sp ∧ sp ≤ 99) (his : is = 0 ∨ is = 1)
    (hC : ∀ c j, c < 3 ∨ 10 < c → c < 36 + 13 * r ∨ 48 + 13 * r < c → ¬ (c = 24 ∧ j = 1) → ¬ (c = 1 ∧ j = 1) → μ' c j = μ c j) (hC5 : μ' (36 + 13 * r) 5 = μ (36 + 13 * r) 5) (h24 : μ' 24 1 = r) (h11 : μ' 1 1 = 0) (hv : μ' (36 + 13 * r) 3 = ho ∧ μ' (36 + 13 * r) 4 = sp ∧ μ' (36 + 13 * r) 2 = is)
    (hM : ∀ c j, c < 239 ∨ 251 < c → ¬ (c = 233 ∧ (j = 1 ∨ j = 3)) → ¬ (235 ≤ c ∧ c ≤ 237 ∧ j = r) → ν' c j = ν c j) (hM2 : ∀ c j, c = 239 ∨ c = 247 → j < 2 * r → ν' c j = ν c j) (hM3 : ∀ c j, 240 ≤ c → c ≤ 246 → j < 42 * r → ν' c j = ν c j) (m3 : ν' 233 3 = r) (m1 : ν' 233 1 = 0) (mv : ν' 236 r = ho ∧ ν' 237 r = sp ∧ ν' 235 r = is)
    (hp1 : RPat μ' ν' (37 + 13 * r) (2 * r) false) (hp2 : is = 1 → RPat μ' ν' (43 + 13 * r) (2 * r + 1) true) : Rel ρ μ' ν' := by
  obtain ⟨rd, ⟨g0, g9, ge, g36, grg, grp, gin⟩, rl, rt, ⟨b1, b2, b3⟩, rn, rp⟩ := h
  have lo : ∀ c j, c < 3 ∨ 10 < c → c < 36 → ¬ (c = 24 ∧ j = 1) → ¬ (c = 1 ∧ j = 1) → μ' c j = μ c j := fun c j h1 h2 h3 h4 => hC c j h1 (by omega) h3 h4
  refine ⟨?_, ?_, ?_, ?_, ?_, ?_, ?_⟩
  · unfold RDraft
    rw [h11, m1]
    exact ⟨by omega, by omega, rfl, fun j hj => by omega⟩
  · unfold RRules
    rw [h24, m3]
    refine ⟨by omega, by omega, rfl, ?_, fun q hq => ?_, fun q h1 hq => ?_, fun q hq => ?_⟩
    · rw [hC 36 2 (by omega) (by omega) (by omega) (by omega)]
      exact g36
    · by_cases e : q = r
      · subst e
        rw [mv.2.2, hv.2.2]
        exact ⟨rfl, his⟩
      · rw [hM 235 q (by omega) (by omega) (by omega), hC (36 + 13 * q) 2 (by omega) (by omega) (by omega) (by omega)]
        exact grg q (by omega)
    · by_cases e : q = r
      · subst e
        rw [mv.1, mv.2.1, hv.1, hv.2.1, hv.2.2]
        exact ⟨rfl, rfl, hsp.1, hsp.2, hp1, hp2⟩
      · obtain ⟨f1, f2, f3, f4, f5, f6⟩ := grp q h1 (by omega)
        rw [hM 236 q (by omega) (by omega) (by omega), hM 237 q (by omega) (by omega) (by omega), hC (36 + 13 * q) 3 (by omega) (by omega) (by omega) (by omega), hC (36 + 13 * q) 4 (by omega) (by omega) (by omega) (by omega), hC (36 + 13 * q) 2 (by omega) (by omega) (by omega) (by omega)]
        refine ⟨f1, f2, f3, f4, f5.fr (fun c j g1 g2 => hC c j (by omega) (by omega) (by omega) (by omega)) (fun j hj => ⟨hM2 _ _ (Or.inl rfl) (by omega), hM2 _ _ (Or.inr rfl) (by omega)⟩) (fun c j g1 g2 g3 g4 => hM3 c j g1 g2 (by omega)), fun z => (f6 z).fr (fun c j g1 g2 => hC c j (by omega) (by omega) (by omega) (by omega)) (fun j hj => ⟨hM2 _ _ (Or.inl rfl) (by omega), hM2 _ _ (Or.inr rfl) (by omega)⟩) (fun c j g1 g2 g3 g4 => hM3 c j g1 g2 (by omega))⟩
    · obtain ⟨f1, f2, f3⟩ := gin q hq
      have e5 : μ' (36 + 13 * q) 5 = μ (36 + 13 * q) 5 := by
        by_cases e : q = r
        · rw [e]; exact hC5
        · exact hC _ _ (by omega) (by omega) (by omega) (by omega)
      rw [hM 238 q (by omega) (by omega) (by omega), e5]
      exact ⟨f1, f2, by omega⟩
  · have l1 : RLines ρ (z_up μ' 24 1 (μ 24 1)) ν' := by
      have up : ∀ c j, ¬ (c = 24 ∧ j = 1) → z_up μ' 24 1 (μ 24 1) c j = μ' c j := fun c j hc => by rw [z_up, if_neg hc]
      refine rl.fr dc ?_ ?_ z_up_eq (fun q hq => ?_) (fun c j h1 h2 => ?_) (hM _ _ (by omega) (by omega) (by omega)) (hM _ _ (by omega) (by omega) (by omega)) (fun c j h1 h2 => hM _ _ (by omega) (by omega) (by omega)) (fun j _ => hM _ _ (by omega) (by omega) (by omega)) (fun j _ => hM _ _ (by omega) (by omega) (by omega)) (fun j _ => hM _ _ (by omega) (by omega) (by omega)) (fun j _ => hM _ _ (by omega) (by omega) (by omega))
      · rw [up _ _ (by omega), lo 1 5 (by omega) (by omega) (by omega) (by omega)]
      · rw [up _ _ (by omega), lo 1 6 (by omega) (by omega) (by omega) (by omega)]
      · rw [up _ _ (by omega), hC _ _ (by omega) (by omega) (by omega) (by omega)]
      · rw [up _ _ (by omega), hC _ _ (by omega) (by omega) (by omega) (by omega)]
    exact l1.gr dc (fun c j hc => (z_up_ne hc).symm) (by rw [z_up_eq, h24, hR]; omega)
  · exact rt.fr (lo _ _ (by omega) (by omega) (by omega) (by omega)) (fun c j h1 h2 => lo _ _ (by omega) (by omega) (by omega) (by omega)) (hM _ _ (by omega) (by omega) (by omega)) (fun c j h1 h2 => hM _ _ (by omega) (by omega) (by omega))
  · rw [hM 233 0 (by omega) (by omega) (by omega), lo 32 0 (by omega) (by omega) (by omega) (by omega)]
    exact ⟨b1, b2, b3⟩
  · rw [lo 16 0 (by omega) (by omega) (by omega) (by omega)]
    exact rn
  · rw [lo 1 6 (by omega) (by omega) (by omega) (by omega)]
    exact rp
