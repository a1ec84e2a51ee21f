/-! All candidates -/
section Lst2
variable {L : Nat} {ρ : Nat → Nat → Nat}
theorem rest_both (rc : Rc ρ) (rm : Rm ρ) {R : Nat} (hR : R ≤ 9) {i n0 : Nat} (hi : i ≤ R) (hn : n0 ≤ 1) (μ ν : Nat → Nat → Int) (h6 : μ 24 1 = R) (h7 : ν 233 3 = R) (h8 : ∀ r : Nat, 1 ≤ r → r ≤ R → ν 236 r = μ (36 + 13 * r) 3) (hc : ν 238 i = μ (36 + 13 * i) 5) (hc0 : -1 ≤ μ (36 + 13 * i) 5) (h9 : μ 24 5 = n0) (h10 : ∀ j : Nat, j < n0 → CD i R (μ 30 j) (ν 267 j)) :
    ∃ (n' : Nat) (μ' ν' : Nat → Nat → Int), f_Gr_listCandidates_29 24 (i : Int) (SH L, ρ, μ) = some (SH L, ρ, μ') ∧ f_Mo_gather_142 233 (i : Int) (n0 : Int) (SH L, ρ, ν) = some ((n' : Int), (SH L, ρ, ν')) ∧ n' ≤ 19 ∧ μ' 24 5 = n' ∧ (∀ j : Nat, j < n' → CD i R (μ' 30 j) (ν' 267 j)) ∧ (∀ c j, c ≠ 30 → ¬ (c = 24 ∧ j = 5) → μ' c j = μ c j) ∧ ∀ c j, c ≠ 267 → ν' c j = ν c j := by
  obtain ⟨-, -, pr3, -, -⟩ := r_pt rc (show i < 11 by omega)
  obtain ⟨n1, μ1, ν1, a1, a2, a3, a4, a5, a6, a7⟩ := list_both (L := L) rc rm hR (i := (i : Int)) (g := (i : Int)) R 100000 100000 1 n0 μ ν (by omega) (by omega) (by omega) (by omega) (by omega) h6 h7 h8 h9 h10
  have e5 : μ1 (36 + 13 * i) 5 = μ (36 + 13 * i) 5 := a6 _ _ (by omega) (by omega)
  have e8 : ν1 238 i = μ (36 + 13 * i) 5 := (a7 _ _ (by decide)).trans hc
  have b1 : f_Gr_listCandidates_29 24 (i : Int) (SH L, ρ, μ) = if μ (36 + 13 * i) 5 = -1 then some (SH L, ρ, μ1) else (f_Gr_listRulesOf 24 (μ (36 + 13 * i) 5) (SH L, ρ, μ1)).bind fun h => some h := by
    unfold f_Gr_listCandidates_29
    have a1' : f_Gr_listRulesOf 24 (i : Int) (SH L, ρ, μ) = some (SH L, ρ, μ1) := a1
    rw [zck_k s_24, Option.bind_some, a1', Option.bind_some]
    simp (disch := omega) only [zgR_k s_24 rc.2.2.2.2.1.1 (by decide), Option.bind_some, zaR_k s_25 (by omega) (by omega) (show ρ 25 (i : Int).toNat = 36 + 13 * i by rw [Int.toNat_natCast]; exact pr3) (by omega), zgI_k (sr_0 (show i < 11 by omega)), e5, zck_k s_24]
  have b2 : f_Mo_gather_142 233 (i : Int) (n0 : Int) (SH L, ρ, ν) = if 0 ≤ μ (36 + 13 * i) 5 then (f_Mo_addRules 233 (n1 : Int) (μ (36 + 13 * i) 5) (SH L, ρ, ν1)).bind fun q8 => some (q8.1, q8.2) else some ((n1 : Int), (SH L, ρ, ν1)) := by
    unfold f_Mo_gather_142
    have a2' : f_Mo_addRules 233 (n0 : Int) (i : Int) (SH L, ρ, ν) = some ((n1 : Int), (SH L, ρ, ν1)) := a2
    rw [zck_k s_233, Option.bind_some, a2', Option.bind_some]
    dsimp only
    simp (disch := omega) only [zgR_k s_233 (m_7 rm) (by decide), Option.bind_some, zaI_k s_238, Int.toNat_natCast, e8, zck_k s_233]
  rw [b1, b2]
  by_cases hm : μ (36 + 13 * i) 5 = -1
  · rw [if_pos hm, if_neg (by omega)]
    exact ⟨n1, μ1, ν1, rfl, rfl, by omega, a4, a5, a6, a7⟩
  · rw [if_neg hm, if_pos (by omega)]
    obtain ⟨n2, μ2, ν2, c1, c2, c3, c4, c5, c6, c7⟩ := list_both (L := L) rc rm hR (i := (i : Int)) (g := μ (36 + 13 * i) 5) R 100000 100000 1 n1 μ1 ν1 (by omega) (by omega) (by omega) (by omega) (by omega) ((a6 _ _ (by decide) (by decide)).trans h6) ((a7 _ _ (by decide)).trans h7) (fun r g1 g2 => by rw [a7 _ _ (by decide), a6 _ _ (by omega) (by omega)]; exact h8 r g1 g2) a4 a5
    have c1' : f_Gr_listRulesOf 24 (μ (36 + 13 * i) 5) (SH L, ρ, μ1) = some (SH L, ρ, μ2) := c1
    have c2' : f_Mo_addRules 233 (n1 : Int) (μ (36 + 13 * i) 5) (SH L, ρ, ν1) = some ((n2 : Int), (SH L, ρ, ν2)) := c2
    rw [c1', c2', Option.bind_some, Option.bind_some]
    exact ⟨n2, μ2, ν2, rfl, rfl, by omega, c4, c5, fun c j g1 g2 => (c6 c j g1 g2).trans (a6 c j g1 g2), fun c j g1 => (c7 c j g1).trans (a7 c j g1)⟩
theorem RSt_inn {μ ν : Nat → Nat → Int} (rs : RSt μ ν 26 6) : (μ 26 0 = 0 ∧ inn μ = 0) ∨ (1 ≤ μ 26 0 ∧ inn μ = μ 27 (μ 26 0 - 1).toNat ∧ 1 ≤ inn μ ∧ inn μ ≤ μ 24 1 ∧ μ (36 + 13 * (inn μ).toNat) 2 = 1 ∧ ν 264 (30 + (μ 26 0 - 1).toNat) = inn μ) := by
  obtain ⟨a, b, c, d, e⟩ := rs
  by_cases h : μ 26 0 = 0
  · exact Or.inl ⟨h, if_pos h⟩
  · have e1 : inn μ = μ 27 (μ 26 0 - 1).toNat := if_neg h
    obtain ⟨d1, d2, d3, d4⟩ := d (μ 26 0 - 1).toNat (by omega)
    rw [e1]
    exact Or.inr ⟨by omega, rfl, d2, d3, d4, d1⟩
theorem cands_both (rc : Rc ρ) (rm : Rm ρ) {μ ν : Nat → Nat → Int} (rr : RRules μ ν) (rs : RSt μ ν 26 6) : ∃ (n : Nat) (μ' ν' : Nat → Nat → Int), f_Gr_listCandidates 24 (SH L, ρ, μ) = some (SH L, ρ, μ') ∧ f_Mo_gather 233 (SH L, ρ, ν) = some ((n : Int), (SH L, ρ, ν')) ∧ n ≤ 19 ∧ μ' 24 5 = n ∧ (∀ j : Nat, j < n → CD (inn μ) (μ 24 1) (μ' 30 j) (ν' 267 j)) ∧ (∀ c j, c ≠ 30 → ¬ (c = 24 ∧ j = 5) → μ' c j = μ c j) ∧ (∀ c j, c ≠ 254 → c ≠ 255 → c ≠ 267 → ν' c j = ν c j) ∧ (1 ≤ inn μ → refOk μ' ν' 26) := by
  obtain ⟨r0, r9, re, -, -, rp, ri⟩ := id rr
  obtain ⟨s0, s5, se, sr, st⟩ := id rs
  obtain ⟨R, hR⟩ : ∃ R : Nat, μ 24 1 = R := ⟨(μ 24 1).toNat, by omega⟩
  rw [hR] at re
  have h8 : ∀ r : Nat, 1 ≤ r → r ≤ R → ν 236 r = μ (36 + 13 * r) 3 := fun r g1 g2 => (rp r g1 (by omega)).1
  have eC : f_Gr_listCandidates 24 (SH L, ρ, μ) = if inn μ = 0 then f_Gr_listCandidates_29 24 (inn μ) (SH L, ρ, z_up μ 24 5 0) else f_Gr_listCandidates_29 24 (inn μ) (SH L, ρ, z_up (z_up (z_up μ 24 5 0) 30 0 0) 24 5 1) := by
    unfold f_Gr_listCandidates
    rw [zgR_k s_24 rc.2.2.2.2.1.2.2.1 (by decide), Option.bind_some, zck_k s_26, Option.bind_some, e_innermost rc s0 s5, Option.bind_some]
    dsimp only
    rw [zpI_k s_24, Option.bind_some, zgR_k s_24 rc.2.2.2.2.1.2.2.2.1 (by decide), Option.bind_some, zsI_k s_30 (by decide) (by decide), Option.bind_some, zpI_k s_24, Option.bind_some]
    rfl
  have eM : f_Mo_gather 233 (SH L, ρ, ν) = f_Mo_gather_29 233 (inn μ) (SH L, ρ, ν) := by
    unfold f_Mo_gather
    rw [zgR_k s_233 (m_39 rm) (by decide), Option.bind_some, zaI_k s_263 (by decide) (by decide), Option.bind_some, show (6 : Int).toNat = 6 from rfl, se]
    obtain ⟨i1, i2⟩ | ⟨i1, i2, i3, i4, i5, i6⟩ := RSt_inn rs
    · rw [if_pos i1, i2]
    · rw [if_neg (by omega), zgR_k s_233 (m_40 rm) (by decide), Option.bind_some, Option.bind_some, zaI_k s_263 (by decide) (by decide), Option.bind_some, show (6 : Int).toNat = 6 from rfl, se, zw_of (by omega) (by omega), zaI_k s_264 (by omega) (by omega), Option.bind_some, show (29 + μ 26 0).toNat = 30 + (μ 26 0 - 1).toNat by omega, i6]
  rw [eC, eM]
  unfold f_Mo_gather_29
  obtain ⟨i1, i2⟩ | ⟨i1, i2, i3, i4, i5, i6⟩ := RSt_inn rs
  · have up : ∀ c j, ¬ (c = 24 ∧ j = 5) → z_up μ 24 5 0 c j = μ c j := fun c j h => by rw [z_up, if_neg h]
    rw [if_pos i2, if_pos (by omega), i2]
    obtain ⟨n', μ', ν', a1, a2, a3, a4, a5, a6, a7⟩ := rest_both (L := L) rc rm (R := R) (by omega) (i := 0) (n0 := 0) (by omega) (by omega) (z_up μ 24 5 0) ν ((up _ _ (by decide)).trans hR) re (fun r g1 g2 => by rw [up _ _ (by omega)]; exact h8 r g1 g2) (by rw [up _ _ (by omega)]; exact (ri 0 (by omega)).1) (by rw [up _ _ (by omega)]; exact (ri 0 (by omega)).2.1) z_up_eq (fun j hj => by omega)
    refine ⟨n', μ', ν', a1, a2, a3, a4, fun j hj => ?_, fun c j g1 g2 => (a6 c j g1 g2).trans (up c j g2), fun c j g1 g2 g3 => a7 c j g3, fun h => by omega⟩
    rw [hR]
    exact a5 j hj
  · obtain ⟨i, hi⟩ : ∃ i : Nat, inn μ = i := ⟨(inn μ).toNat, by omega⟩
    obtain ⟨d, hd⟩ : ∃ d : Nat, μ 26 0 = d := ⟨(μ 26 0).toNat, by omega⟩
    have up : ∀ c j, c ≠ 30 → ¬ (c = 24 ∧ j = 5) → z_up (z_up (z_up μ 24 5 0) 30 0 0) 24 5 1 c j = μ c j := by
      intro c j g1 g2
      rw [z_up, if_neg g2, z_up_ne g1, z_up, if_neg g2]
    have h6 : z_up ν 267 0 (2 * inn μ + 1) 263 6 = d := by rw [z_up_ne (by decide), se, hd]
    have tx : ∀ t : Nat, t < 2 → ν 265 (60 + (2 * d - 2 + t)) = μ 28 (2 * d - 2 + t) ∧ μ 28 (2 * d - 2 + t) ≤ 24 ∧ ∀ c : Nat, (c : Int) < μ 28 (2 * d - 2 + t) → ν 266 (1440 + 24 * (2 * d - 2 + t) + c) = μ 29 (24 * (2 * d - 2 + t) + c) := by
      intro t ht
      obtain ⟨u1, u2, u3⟩ := st (2 * d - 2 + t) (by omega)
      exact ⟨u1, u2, fun c hc => (u3 c hc).1⟩
    obtain ⟨νb, b1, b2, b3⟩ := m_g51 (L := L) rm (a1 := inn μ) (a2 := 1) (d := d) (by omega) (by omega) (z_up ν 267 0 (2 * inn μ + 1)) h6 (fun t ht => by rw [z_up_ne (by decide), (tx t ht).1]; exact (tx t ht).2.1)
    have upM : ∀ c j, c ≠ 254 → c ≠ 255 → c ≠ 267 → νb c j = ν c j := fun c j g1 g2 g3 => (b2 c j g1 g2).trans (z_up_ne g3)
    rw [if_neg (by omega), if_neg (by omega), zgR_k s_233 (m_43 rm) (by decide), Option.bind_some, zw_of (x := 2 * inn μ) (by omega) (by omega), zw_of (x := 2 * inn μ + 1) (by omega) (by omega), zsI_k s_267 (by decide) (by decide), Option.bind_some, show (0 : Int).toNat = 0 from rfl, b1, hi]
    obtain ⟨n', μ', ν', a1, a2, a3, a4, a5, a6, a7⟩ := rest_both (L := L) rc rm (R := R) (by omega) (i := i) (n0 := 1) (by omega) (by omega) (z_up (z_up (z_up μ 24 5 0) 30 0 0) 24 5 1) νb ((up _ _ (by decide) (by decide)).trans hR) ((upM _ _ (by decide) (by decide) (by decide)).trans re) (fun r g1 g2 => by rw [upM _ _ (by decide) (by decide) (by decide), up _ _ (by omega) (by omega)]; exact h8 r g1 g2) (by rw [upM _ _ (by decide) (by decide) (by decide), up _ _ (by omega) (by omega)]; exact (ri i (by omega)).1) (by rw [up _ _ (by omega) (by omega)]; exact (ri i (by omega)).2.1) z_up_eq (fun j hj => by
      obtain rfl : j = 0 := by omega
      rw [z_up_ne (by decide), z_up_eq, b2 _ _ (by decide) (by decide), z_up_eq]
      exact Or.inl ⟨rfl, by omega, by omega⟩)
    refine ⟨n', μ', ν', a1, a2, a3, a4, fun j hj => ?_, fun c j g1 g2 => (a6 c j g1 g2).trans (up c j g1 g2), fun c j g1 g2 g3 => (a7 c j g3).trans (upM c j g1 g2 g3), fun _ t ht => ?_⟩
    · rw [hR]
      exact a5 j hj
    · obtain ⟨t1, t2, t3⟩ := tx t ht
      obtain ⟨c1, c2⟩ := b3 t ht
      rw [z_up_ne (by decide)] at c1 c2
      have m26 : μ' 26 0 = d := ((a6 _ _ (by decide) (by decide)).trans (up _ _ (by decide) (by decide))).trans hd
      have m28 : ∀ j, μ' 28 j = μ 28 j := fun j => (a6 _ _ (by omega) (by omega)).trans (up _ _ (by omega) (by omega))
      have m29 : ∀ j, μ' 29 j = μ 29 j := fun j => (a6 _ _ (by omega) (by omega)).trans (up _ _ (by omega) (by omega))
      have ix : (2 * ((d : Int) - 1) + (1 + (t : Int)) - 1).toNat = 2 * d - 2 + t := by omega
      have rn : rtN μ' 26 (1 + (t : Int)) = (μ 28 (2 * d - 2 + t)).toNat := by
        unfold rtN
        rw [m26, if_neg (by omega), ix]
        show (μ' 28 _).toNat = _
        rw [m28]
      rw [a7 _ _ (by decide), c1, t1, rn]
      refine ⟨t2, rfl, fun q hq => ?_⟩
      rw [a7 _ _ (by decide), c2 q (by rw [t1]; omega), z_up_ne (by decide), t3 q (by omega)]
      unfold rtC
      rw [m26]
      show _ = μ' 29 _
      rw [m29]
      congr 1
      omega
end Lst2
