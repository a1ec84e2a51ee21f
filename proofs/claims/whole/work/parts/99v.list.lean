/-! The candidates -/
def inn (μ : Nat → Nat → Int) : Int := if μ 26 0 = 0 then 0 else μ 27 (μ 26 0 - 1).toNat
/-- a candidate of the class and one of the model -/
def CD (i R a b : Int) : Prop := (a = 0 ∧ 1 ≤ i ∧ b = 2 * i + 1) ∨ (1 ≤ a ∧ a ≤ R ∧ b = 2 * a)
section Lst
variable {L : Nat} {ρ : Nat → Nat → Nat}
theorem e_innermost (rc : Rc ρ) {μ : Nat → Nat → Int} (h0 : 0 ≤ μ 26 0) (h5 : μ 26 0 ≤ 5) : f_St_innermost 26 (SH L, ρ, μ) = some (inn μ, (SH L, ρ, μ)) := by
  unfold f_St_innermost inn
  rw [zgI_k s_26, Option.bind_some]
  by_cases h : μ 26 0 = 0
  · rw [if_pos h, if_pos h]
  · rw [if_neg h, if_neg h, zgR_k s_26 rc.2.2.2.1.2.2.1 (by decide), Option.bind_some, Option.bind_some, zw_of (by omega) (by omega), zaI_k s_27 (by omega) (by omega), Option.bind_some]
theorem list_both (rc : Rc ρ) (rm : Rm ρ) {R : Nat} (hR : R ≤ 9) {i g : Int} : ∀ (m N N' r n : Nat) (μ ν : Nat → Nat → Int), r + m = R + 1 → 1 ≤ r → m < N → m < N' → n + m ≤ 19 → μ 24 1 = R → ν 233 3 = R → (∀ r : Nat, 1 ≤ r → r ≤ R → ν 236 r = μ (36 + 13 * r) 3) → μ 24 5 = n → (∀ j : Nat, j < n → CD i R (μ 30 j) (ν 267 j)) →
    ∃ (n' : Nat) (μ' ν' : Nat → Nat → Int), f_Gr_listRulesOf_2 N 24 g (r : Int) (SH L, ρ, μ) = some (SH L, ρ, μ') ∧ f_Mo_addRules_5 N' 233 g (n : Int) (r : Int) (SH L, ρ, ν) = some ((n' : Int), (SH L, ρ, ν')) ∧ n' ≤ n + m ∧ μ' 24 5 = n' ∧ (∀ j : Nat, j < n' → CD i R (μ' 30 j) (ν' 267 j)) ∧ (∀ c j, c ≠ 30 → ¬ (c = 24 ∧ j = 5) → μ' c j = μ c j) ∧ ∀ c j, c ≠ 267 → ν' c j = ν c j := by
  intro m
  induction m with
  | zero =>
    intro N N' r n μ ν h1 h2 h3 h4 h5 h6 h7 h8 h9 h10
    obtain ⟨N, rfl⟩ : ∃ k, N = k + 1 := ⟨N - 1, by omega⟩
    obtain ⟨N', rfl⟩ : ∃ k, N' = k + 1 := ⟨N' - 1, by omega⟩
    refine ⟨n, μ, ν, ?_, ?_, Nat.le_refl _, h9, h10, fun _ _ _ _ => rfl, fun _ _ _ => rfl⟩
    · rw [f_Gr_listRulesOf_2]
      show (z_gI _ _ _ _).bind _ = _
      rw [zgI_k s_24, Option.bind_some, h6, if_pos (by omega)]
    · rw [f_Mo_addRules_5]
      show (z_gI _ _ _ _).bind _ = _
      rw [zgI_k s_233, Option.bind_some, h7, if_pos (by omega)]
  | succ m ih =>
    intro N N' r n μ ν h1 h2 h3 h4 h5 h6 h7 h8 h9 h10
    obtain ⟨N, rfl⟩ : ∃ k, N = k + 1 := ⟨N - 1, by omega⟩
    obtain ⟨N', rfl⟩ : ∃ k, N' = k + 1 := ⟨N' - 1, by omega⟩
    obtain ⟨-, -, pr3, -, -⟩ := r_pt rc (show r < 11 by omega)
    have g8 := h8 r h2 (by omega)
    have eC : f_Gr_listRulesOf_2 (N + 1) 24 g (r : Int) (SH L, ρ, μ) = if μ (36 + 13 * r) 3 = g then f_Gr_listRulesOf_2 N 24 g ((r + 1 : Nat) : Int) (SH L, ρ, z_up (z_up μ 30 n (r : Int)) 24 5 ((n + 1 : Nat) : Int)) else f_Gr_listRulesOf_2 N 24 g ((r + 1 : Nat) : Int) (SH L, ρ, μ) := by
      rw [f_Gr_listRulesOf_2]
      show (z_gI _ _ _ _).bind _ = _
      unfold f_Gr_listRulesOf_43
      rw [zgI_k s_24, Option.bind_some, h6, if_neg (by omega), zgR_k s_24 rc.2.2.2.2.1.1 (by decide), Option.bind_some, e_rule pr3 (by omega), Option.bind_some, zgI_k (sr_0 (by omega)), Option.bind_some, zw_of (x := (r : Int) + 1) (by omega) (by omega), zgR_k s_24 rc.2.2.2.2.1.2.2.2.1 (by decide), Option.bind_some, zgI_k s_24, Option.bind_some, h9, zsI_k s_30 (by omega) (by omega), Option.bind_some, zgI_k s_24, Option.bind_some, z_up_ne (by decide), h9, zw_of (x := (n : Int) + 1) (by omega) (by omega), zpI_k s_24, Option.bind_some, Int.toNat_natCast, show ((r + 1 : Nat) : Int) = (r : Int) + 1 by omega, show ((n + 1 : Nat) : Int) = (n : Int) + 1 by omega]
    have eM : f_Mo_addRules_5 (N' + 1) 233 g (n : Int) (r : Int) (SH L, ρ, ν) = if μ (36 + 13 * r) 3 = g then f_Mo_addRules_5 N' 233 g ((n + 1 : Nat) : Int) ((r + 1 : Nat) : Int) (SH L, ρ, z_up ν 267 n (2 * (r : Int))) else f_Mo_addRules_5 N' 233 g (n : Int) ((r + 1 : Nat) : Int) (SH L, ρ, ν) := by
      rw [f_Mo_addRules_5]
      show (z_gI _ _ _ _).bind _ = _
      unfold f_Mo_addRules_38
      rw [zgI_k s_233, Option.bind_some, h7, if_neg (by omega), zgR_k s_233 (m_5 rm) (by decide), Option.bind_some, zaI_k s_236 (by omega) (by omega), Option.bind_some, Int.toNat_natCast, g8, zgR_k s_233 (m_43 rm) (by decide), Option.bind_some, zw_of (x := 2 * (r : Int)) (by omega) (by omega), zw_of (x := (n : Int) + 1) (by omega) (by omega), zw_of (x := (r : Int) + 1) (by omega) (by omega), zsI_k s_267 (by omega) (by omega), Option.bind_some, Int.toNat_natCast, show ((r + 1 : Nat) : Int) = (r : Int) + 1 by omega, show ((n + 1 : Nat) : Int) = (n : Int) + 1 by omega]
    rw [eC, eM]
    by_cases hg : μ (36 + 13 * r) 3 = g
    · rw [if_pos hg, if_pos hg]
      have up : ∀ c j, c ≠ 30 → ¬ (c = 24 ∧ j = 5) → z_up (z_up μ 30 n (r : Int)) 24 5 ((n + 1 : Nat) : Int) c j = μ c j := by
        intro c j a1 a2
        rw [z_up, if_neg a2, z_up_ne a1]
      obtain ⟨n', μ', ν', i1, i2, i3, i4, i5, i6, i7⟩ := ih N N' (r + 1) (n + 1) (z_up (z_up μ 30 n (r : Int)) 24 5 ((n + 1 : Nat) : Int)) (z_up ν 267 n (2 * (r : Int))) (by omega) (by omega) (by omega) (by omega) (by omega) ((up 24 1 (by decide) (by decide)).trans h6) ((z_up_ne (by decide)).trans h7) (fun r a1 a2 => by rw [z_up_ne (by decide), up _ _ (by omega) (by omega)]; exact h8 r a1 a2) z_up_eq (fun j hj => by
        rw [z_up_ne (by decide)]
        by_cases e : j = n
        · rw [e, z_up_eq, z_up_eq]
          exact Or.inr ⟨by omega, by omega, rfl⟩
        · rw [z_up_nj e, z_up_nj e]
          exact h10 j (by omega))
      exact ⟨n', μ', ν', i1, i2, by omega, i4, i5, fun c j a1 a2 => (i6 c j a1 a2).trans (up c j a1 a2), fun c j a1 => (i7 c j a1).trans (z_up_ne a1)⟩
    · rw [if_neg hg, if_neg hg]
      obtain ⟨n', μ', ν', i1, i2, i3, i4, i5, i6, i7⟩ := ih N N' (r + 1) n μ ν (by omega) (by omega) (by omega) (by omega) (by omega) h6 h7 h8 h9 h10
      exact ⟨n', μ', ν', i1, i2, by omega, i4, i5, i6, i7⟩
theorem m_g90 (rm : Rm ρ) {a1 a2 : Int} {t j : Nat} (ht : t < 2) (hj : j < 10) (K : Nat → Int → Int → Int → zH → Option (Int × zH)) : ∀ (m N c : Nat) (ν : Nat → Nat → Int), c + m = 24 → m < N → ν 254 t ≤ 24 → ∃ ν', f_Mo_gather_90 K N 233 a1 a2 (t : Int) (j : Int) (c : Int) (SH L, ρ, ν) = K 233 a1 a2 ((t + 1 : Nat) : Int) (SH L, ρ, ν') ∧ (∀ a i, a ≠ 255 → ν' a i = ν a i) ∧ (∀ i, ¬ (24 * t + c ≤ i ∧ i < 24 * t + 24) → ν' 255 i = ν 255 i) ∧ ∀ i : Nat, c ≤ i → (i : Int) < ν 254 t → ν' 255 (24 * t + i) = ν 266 (1440 + 24 * j + i) := by
  intro m
  induction m with
  | zero =>
    intro N c ν hc hN h24
    obtain ⟨N, rfl⟩ : ∃ k, N = k + 1 := ⟨N - 1, by omega⟩
    refine ⟨ν, ?_, fun _ _ _ => rfl, fun _ _ => rfl, fun i h1 h2 => by omega⟩
    rw [f_Mo_gather_90]
    show (z_gR _ _ _ _).bind _ = _
    rw [zgR_k s_233 (m_28 rm) (by decide), Option.bind_some, zaI_k s_254 (by omega) (by omega), Option.bind_some, Int.toNat_natCast, if_pos (by omega), zw_of (by omega) (by omega), show ((t + 1 : Nat) : Int) = (t : Int) + 1 by omega]
  | succ m ih =>
    intro N c ν hc hN h24
    obtain ⟨N, rfl⟩ : ∃ k, N = k + 1 := ⟨N - 1, by omega⟩
    by_cases h1 : ν 254 t ≤ (c : Int)
    · refine ⟨ν, ?_, fun _ _ _ => rfl, fun _ _ => rfl, fun i h1 h2 => by omega⟩
      rw [f_Mo_gather_90]
      show (z_gR _ _ _ _).bind _ = _
      rw [zgR_k s_233 (m_28 rm) (by decide), Option.bind_some, zaI_k s_254 (by omega) (by omega), Option.bind_some, Int.toNat_natCast, if_pos h1, zw_of (by omega) (by omega), show ((t + 1 : Nat) : Int) = (t : Int) + 1 by omega]
    · obtain ⟨ν', e1, e2, e3, e4⟩ := ih N (c + 1) (z_up ν 255 (24 * t + c) (ν 266 (1440 + 24 * j + c))) (by omega) (by omega) (by rw [z_up_ne (by decide)]; exact h24)
      refine ⟨ν', ?_, fun a i h => (e2 a i h).trans (z_up_ne h), fun i h => (e3 i (by omega)).trans (z_up_nj (by omega)), fun i g1 g2 => ?_⟩
      · rw [f_Mo_gather_90]
        show (z_gR _ _ _ _).bind _ = _
        have t1 : (1440 + 24 * (j : Int) + (c : Int)).toNat = 1440 + 24 * j + c := by omega
        have t2 : (24 * (t : Int) + (c : Int)).toNat = 24 * t + c := by omega
        rw [zgR_k s_233 (m_28 rm) (by decide), Option.bind_some, zaI_k s_254 (by omega) (by omega), Option.bind_some, Int.toNat_natCast, if_neg h1]
        simp (disch := omega) only [zgR_k s_233 (m_29 rm) (by decide), zgR_k s_233 (m_42 rm) (by decide), Option.bind_some, zw_of, zaI_k s_266, zsI_k s_255, t1, t2]
        rw [show ((c + 1 : Nat) : Int) = (c : Int) + 1 by omega] at e1
        exact e1
      · by_cases hi : i = c
        · rw [hi, e3 _ (by omega), z_up_eq]
        · rw [e4 i (by omega) (by rw [z_up_ne (by decide)]; exact g2), z_up_ne (by decide)]
theorem m_g51s (rm : Rm ρ) {a1 a2 : Int} {t d : Nat} (ht : t < 2) (hd : 1 ≤ d) (hd5 : d ≤ 5) (N : Nat) (ν : Nat → Nat → Int) (h6 : ν 263 6 = d) (h24 : ν 265 (60 + (2 * d - 2 + t)) ≤ 24) : ∃ ν', f_Mo_gather_51 (N + 1) 233 a1 a2 (t : Int) (SH L, ρ, ν) = f_Mo_gather_51 N 233 a1 a2 ((t + 1 : Nat) : Int) (SH L, ρ, ν') ∧ (∀ a i, a ≠ 254 → a ≠ 255 → ν' a i = ν a i) ∧ (∀ i, i ≠ t → ν' 254 i = ν 254 i) ∧ (∀ i, ¬ (24 * t ≤ i ∧ i < 24 * t + 24) → ν' 255 i = ν 255 i) ∧ ν' 254 t = ν 265 (60 + (2 * d - 2 + t)) ∧ ∀ i : Nat, (i : Int) < ν 265 (60 + (2 * d - 2 + t)) → ν' 255 (24 * t + i) = ν 266 (1440 + 24 * (2 * d - 2 + t) + i) := by
  obtain ⟨ν', e1, e2, e3, e4⟩ := m_g90 (L := L) rm (a1 := a1) (a2 := a2) (t := t) (j := 2 * d - 2 + t) ht (by omega) (f_Mo_gather_51 N) 24 100000 0 (z_up ν 254 t (ν 265 (60 + (2 * d - 2 + t)))) (by omega) (by omega) (by rw [z_up_eq]; exact h24)
  refine ⟨ν', ?_, fun a i h1 h2 => (e2 a i h2).trans (z_up_ne h1), fun i h => (e2 254 i (by decide)).trans (z_up_nj h), fun i h => (e3 i (by omega)).trans (z_up_ne (by decide)), (e2 254 t (by decide)).trans z_up_eq, fun i h => (e4 i (Nat.zero_le _) (by rw [z_up_eq]; exact h)).trans (z_up_ne (by decide))⟩
  have t1 : (60 + (2 * (d : Int) - 2 + (t : Int))).toNat = 60 + (2 * d - 2 + t) := by omega
  have t2 : 2 * (d : Int) - 2 + (t : Int) = ((2 * d - 2 + t : Nat) : Int) := by omega
  rw [f_Mo_gather_51]
  show (if _ then _ else _) = _
  rw [if_neg (by omega), zgR_k s_233 (m_39 rm) (by decide), Option.bind_some, zaI_k s_263 (by decide) (by decide), Option.bind_some, show (6 : Int).toNat = 6 from rfl, h6]
  simp (disch := omega) only [zgR_k s_233 (m_28 rm) (by decide), zgR_k s_233 (m_41 rm) (by decide), Option.bind_some, zw_of, zaI_k s_265, zsI_k s_254, t1, Int.toNat_natCast]
  rw [t2]
  exact e1
theorem m_g51 (rm : Rm ρ) {a1 a2 : Int} {d : Nat} (hd : 1 ≤ d) (hd5 : d ≤ 5) (ν : Nat → Nat → Int) (h6 : ν 263 6 = d) (h24 : ∀ t, t < 2 → ν 265 (60 + (2 * d - 2 + t)) ≤ 24) : ∃ ν', f_Mo_gather_51 100000 233 a1 a2 0 (SH L, ρ, ν) = f_Mo_gather_142 233 a1 a2 (SH L, ρ, ν') ∧ (∀ a i, a ≠ 254 → a ≠ 255 → ν' a i = ν a i) ∧ ∀ t : Nat, t < 2 → ν' 254 t = ν 265 (60 + (2 * d - 2 + t)) ∧ ∀ i : Nat, (i : Int) < ν 265 (60 + (2 * d - 2 + t)) → ν' 255 (24 * t + i) = ν 266 (1440 + 24 * (2 * d - 2 + t) + i) := by
  obtain ⟨ν1, a1', a2', a3, a4, a5, a6⟩ := m_g51s (L := L) rm (a1 := a1) (a2 := a2) (t := 0) (by omega) hd hd5 99999 ν h6 (h24 0 (by omega))
  obtain ⟨ν2, b1, b2, b3, b4, b5, b6⟩ := m_g51s (L := L) rm (a1 := a1) (a2 := a2) (t := 1) (by omega) hd hd5 99998 ν1 (by rw [a2' _ _ (by decide) (by decide)]; exact h6) (by rw [a2' _ _ (by decide) (by decide)]; exact h24 1 (by omega))
  refine ⟨ν2, ?_, fun a i h1 h2 => (b2 a i h1 h2).trans (a2' a i h1 h2), fun t ht => ?_⟩
  · refine (a1'.trans b1).trans ?_
    rw [f_Mo_gather_51]
    show (if _ then _ else _) = _
    rw [if_pos (by decide)]
  · obtain rfl | rfl : t = 0 ∨ t = 1 := by omega
    · refine ⟨(b3 0 (by omega)).trans a5, fun i hi => ?_⟩
      have := h24 0 (by omega)
      rw [b4 _ (by omega)]
      exact a6 i hi
    · rw [b5, a2' _ _ (by decide) (by decide)]
      refine ⟨rfl, fun i hi => ?_⟩
      rw [b6 i (by rw [a2' _ _ (by decide) (by decide)]; exact hi), a2' _ _ (by decide) (by decide)]
end Lst
