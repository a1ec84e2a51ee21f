/-! include -/
theorem Rel.of {ρ : Nat → Nat → Nat} {μ ν μ' ν' : Nat → Nat → Int} {n : Nat} (rd : RDraft μ ν) (rt : RTheme μ ν) (hB : Bas μ ν) (h : FrR ρ μ ν μ' ν' n) : Rel ρ μ' ν' := by
  obtain ⟨rr, rb, rn, l0, l6, le⟩ := hB
  obtain ⟨hC, hM, h6, h31, hR⟩ := h
  have r9 := rr.2.1
  have c1 : ∀ c j, c < 20 ∨ (36 ≤ c ∧ c < 179) ∨ 233 ≤ c → ¬ (c = 1 ∧ j = 6) → μ' c j = μ c j := by
    intro c j g1 g2
    have := hC.1 c j g1
    rw [z_up, if_neg g2] at this
    exact this
  have c2 : μ' 24 1 = μ 24 1 := by
    have := hC.2.1
    rw [z_up_ne (by decide)] at this
    exact this
  have c3 : μ' 32 0 = μ 32 0 := by
    have := hC.2.2
    rw [z_up_ne (by decide)] at this
    exact this
  have e5 : μ' 1 5 = μ 1 5 := c1 _ _ (by omega) (by omega)
  refine ⟨?_, ?_, ?_, ?_, ?_, ?_, ?_⟩
  · exact rd.fr (c1 _ _ (by omega) (by omega)) (fun j => c1 _ _ (by omega) (by omega)) (hM.2 _ (by omega)) (fun j => hM.1 _ _ (by omega))
  · exact rr.fr c2 (fun r j off g1 g2 => c1 _ _ (by omega) (by omega)) (fun r g1 => c1 _ _ (by omega) (by omega)) (hM.2 _ (by omega)) (fun c j g1 g2 => hM.1 _ _ (by omega)) (fun j hj => ⟨hM.1 _ _ (by omega), hM.1 _ _ (by omega)⟩) (fun c j g1 g2 g3 => hM.1 _ _ (by omega))
  · unfold RLines
    rw [e5, hM.2 30 (by omega)]
    exact ⟨l0, l6, le, h31, hR⟩
  · exact rt.fr (c1 _ _ (by omega) (by omega)) (fun c j g1 g2 => c1 _ _ (by omega) (by omega)) (hM.2 _ (by omega)) (fun c j g1 g2 => hM.1 _ _ (by omega))
  · rw [hM.2 0 (by omega), c3]
    exact rb
  · rw [c1 16 0 (by omega) (by omega)]
    exact rn
  · rw [show μ' 1 6 = _ from h6]
    exact pzn_b _ _
theorem FrR.b {ρ : Nat → Nat → Nat} {μ ν μ' ν' : Nat → Nat → Int} {n : Nat} (h : FrR ρ μ ν μ' ν' n) : FrB μ μ' ∧ FrD ν ν' := by
  obtain ⟨hC, hM, -, -, -⟩ := h
  refine ⟨fun c j g => ?_, fun c j g => hM.1 c j (by omega)⟩
  have := hC.1 c j (by omega)
  rw [z_up_ne (by omega)] at this
  exact this
theorem range_both {L : Nat} {ρ : Nat → Nat → Nat} {μ ν : Nat → Nat → Int} (rc : Rc ρ) (rm : Rm ρ) (rr : RRules μ ν) (r : Int) : ∃ z, f_Gr_isRange 24 r (SH L, ρ, μ) = some (z, (SH L, ρ, μ)) ∧ f_Mo_isRangeNumber 233 r (SH L, ρ, ν) = some (z, (SH L, ρ, ν)) ∧ ((z = 1 ∧ 0 ≤ r ∧ r ≤ μ 24 1 ∧ μ (36 + 13 * r.toNat) 2 = 1) ∨ z = 0) := by
  obtain ⟨r0, r9, re, -, rg, -, -⟩ := rr
  unfold f_Gr_isRange f_Mo_isRangeNumber
  by_cases h0 : r < 0
  · rw [if_pos h0, if_pos h0]
    exact ⟨0, rfl, rfl, Or.inr rfl⟩
  rw [if_neg h0, if_neg h0, zgI_k s_24, Option.bind_some, zgI_k s_233, Option.bind_some, re]
  by_cases h1 : μ 24 1 < r
  · rw [if_pos h1, if_pos h1]
    exact ⟨0, rfl, rfl, Or.inr rfl⟩
  obtain ⟨r, rfl⟩ : ∃ n : Nat, r = n := ⟨r.toNat, by omega⟩
  obtain ⟨-, -, pr3, -, -⟩ := r_pt rc (show r < 11 by omega)
  obtain ⟨g1, g2⟩ := rg r (by omega)
  rw [if_neg h1, if_neg h1, zgR_k s_24 rc.2.2.2.2.1.1 (by decide), Option.bind_some, e_rule pr3 (by omega), Option.bind_some, zgI_k (sr_0 (by omega)), Option.bind_some, zgR_k s_233 (m_4 rm) (by decide), Option.bind_some, zaI_k s_235 (by omega) (by omega), Option.bind_some, Int.toNat_natCast, g1]
  by_cases h2 : μ (36 + 13 * r) 2 = 0
  · rw [if_pos h2, if_pos h2]
    exact ⟨0, rfl, rfl, Or.inr rfl⟩
  · rw [if_neg h2, if_neg h2]
    exact ⟨1, rfl, rfl, Or.inl ⟨rfl, by omega, by omega, by omega⟩⟩
/-- all lines anew -/
theorem all_both {L : Nat} {ρ : Nat → Nat → Nat} {μ ν : Nat → Nat → Int} (rc : Rc ρ) (rm : Rm ρ) (dc : Dc ρ) (hr : Rel ρ μ ν) : ∃ (a : Int) (μ' ν' : Nat → Nat → Int), f_SL_tokenizeFrom 1 0 1 (SH L, ρ, μ) = some (a, (SH L, ρ, μ')) ∧ f_Mo_refreshAll 233 (SH L, ρ, ν) = some (SH L, ρ, ν') ∧ FrB μ μ' ∧ FrD ν ν' ∧ Rel ρ μ' ν' ∧ μ' 24 1 = μ 24 1 ∧ ν' 233 3 = ν 233 3 := by
  obtain ⟨rd, rr, ⟨l0, l6, le, lp, hl⟩, rt, rb, rn, rp0, rp1⟩ := id hr
  have hB : Bas μ ν := ⟨rr, rb, rn, l0, l6, le⟩
  obtain ⟨m, hm⟩ : ∃ m : Nat, μ 1 5 = m := ⟨(μ 1 5).toNat, by omega⟩
  obtain ⟨μ', ν', d1, d2, d3⟩ := all_loop (L := L) rc rm dc (μ0 := μ) (ν0 := ν) m 100000 100000 0 μ ν (by rw [hm, Nat.zero_add]) (by omega) (by omega) ⟨fun _ _ _ => rfl, rfl, rfl⟩ (GFM.refl ν) hB (by show ν 233 31 = _; rw [pzn_0 rp0 rp1, lp]) hl
  refine ⟨_, μ', ν', d1, d2, d3.b.1, d3.b.2, Rel.of rd rt hB d3, ?_, d3.2.1.2 3 (by omega)⟩
  have := d3.1.2.1
  rw [z_up_ne (by decide)] at this
  exact this
theorem c_include (L : Nat) (r o : Int) : CaseR L (f_SL_include 1 r o) (f_Mo_include 233 r o) := CaseR.two0 fun ρ μ ν rc rm dc hr => by
  obtain ⟨rd, rr, rl, rt, rb, rn, rp0, rp1⟩ := id hr
  have dn : ∀ a : Int, ∃ (a' : Int) (μ1 ν1 : Nat → Nat → Int), some (a, (SH L, ρ, μ)) = some (a', (SH L, ρ, μ1)) ∧ some (a, (SH L, ρ, ν)) = some (a', (SH L, ρ, ν1)) ∧ FrB μ μ1 ∧ FrD ν ν1 ∧ Rel ρ μ1 ν1 := fun a => ⟨a, μ, ν, rfl, rfl, fun _ _ _ => rfl, fun _ _ _ => rfl, hr⟩
  obtain ⟨z, z1, z2, z3⟩ := range_both (L := L) rc rm rr r
  obtain ⟨y, y1, y2, y3⟩ := range_both (L := L) rc rm rr o
  unfold f_SL_include f_Mo_include
  rw [zgR_k s_1 rc.1.2.2.1 (by decide), Option.bind_some, zck_k s_24, Option.bind_some, z1, Option.bind_some, zck_k s_233, Option.bind_some, z2, Option.bind_some]
  dsimp only
  obtain ⟨z3, r0, r1, r2⟩ | z3 := z3
  case inr =>
    rw [if_pos z3, if_pos z3]
    exact dn _
  rw [if_neg (by omega), if_neg (by omega), zgR_k s_1 rc.1.2.2.1 (by decide), Option.bind_some, zck_k s_24, Option.bind_some, y1, Option.bind_some, zck_k s_233, Option.bind_some, y2, Option.bind_some]
  dsimp only
  obtain ⟨y3, o0, o1, o2⟩ | y3 := y3
  case inr =>
    rw [if_pos y3, if_pos y3]
    exact dn _
  obtain ⟨r, rfl⟩ : ∃ n : Nat, r = n := ⟨r.toNat, by omega⟩
  obtain ⟨g0, g9, ge, g36, grg, grp, gin⟩ := id rr
  obtain ⟨-, -, pr3, -, -⟩ := r_pt rc (show r < 11 by omega)
  have i1 := gin r (by omega)
  have a1 : z_gR (SH L, ρ, μ) 0 1 3 = some 24 := zgR_k s_1 rc.1.2.2.1 (by decide)
  have a3 : z_gR (SH L, ρ, μ) 8 24 0 = some 25 := zgR_k s_24 rc.2.2.2.2.1.1 (by decide)
  have a4 : z_aR (SH L, ρ, μ) 24 25 (r : Int) = some (36 + 13 * r) := e_rule pr3 (by omega)
  rw [if_neg (by omega), if_neg (by omega)]
  simp only [a1, a3, a4, Option.bind_some, zgI_k (sr_0 (show r < 11 by omega)), zpI_k (sr_0 (show r < 11 by omega)), zck_k s_1, zgR_k s_233 (m_7 rm) (show (238 : Nat) ≠ 0 by decide), zaI_k s_238 (show (0 : Int) ≤ (r : Int) by omega) (show (r : Int) < ((10 : Nat) : Int) by omega), zsI_k s_238 (show (0 : Int) ≤ (r : Int) by omega) (show (r : Int) < ((10 : Nat) : Int) by omega), Int.toNat_natCast, zck_k s_233, i1.1]
  by_cases h5 : μ (36 + 13 * r) 5 = o
  · rw [if_pos h5, if_pos h5]
    exact dn _
  rw [if_neg h5, if_neg h5]
  have upC : ∀ c j, ¬ (c = 36 + 13 * r ∧ j = 5) → z_up μ (36 + 13 * r) 5 o c j = μ c j := fun c j h => by rw [z_up, if_neg h]
  have hr' : Rel ρ (z_up μ (36 + 13 * r) 5 o) (z_up ν 238 r o) := by
    refine ⟨?_, ?_, ?_, ?_, ?_, ?_, ?_⟩
    · exact rd.fr (upC _ _ (by omega)) (fun j => upC _ _ (by omega)) (z_up_ne (by decide)) (fun j => z_up_ne (by decide))
    · have hpt : ∀ (q p pt : Nat) (en : Bool), (p = 37 + 13 * q ∨ p = 43 + 13 * q) → RPat μ ν p pt en → RPat (z_up μ (36 + 13 * r) 5 o) (z_up ν 238 r o) p pt en := by
        intro q p pt en hp h
        exact h.fr (fun c j h7 h8 => upC _ _ (by omega)) (fun j hj => ⟨z_up_ne (by decide), z_up_ne (by decide)⟩) (fun c j h7 h8 h9 h10 => z_up_ne (by omega))
      unfold RRules
      rw [upC 24 1 (by omega), z_up_ne (by decide), upC 36 2 (by omega)]
      refine ⟨g0, g9, ge, g36, fun q hq => ?_, fun q h1 hq => ?_, fun q hq => ?_⟩
      · rw [z_up_ne (by decide), upC _ _ (by omega)]
        exact grg q hq
      · obtain ⟨f1, f2, f3, f4, f5, f6⟩ := grp q h1 hq
        rw [upC _ 3 (by omega), upC _ 4 (by omega), upC _ 2 (by omega), z_up_ne (show (236 : Nat) ≠ 238 by decide), z_up_ne (show (237 : Nat) ≠ 238 by decide)]
        exact ⟨f1, f2, f3, f4, hpt q _ _ _ (by omega) f5, fun h2 => hpt q _ _ _ (by omega) (f6 h2)⟩
      · by_cases e : q = r
        · subst e
          rw [z_up_eq, z_up_eq]
          exact ⟨rfl, by omega, o1⟩
        · rw [z_up_nj e, upC _ _ (by omega)]
          exact gin q hq
    · exact rl.fr dc (upC _ _ (by omega)) (upC _ _ (by omega)) (upC _ _ (by omega)) (fun r g1 => upC _ _ (by omega)) (fun c j h1 h2 => upC _ _ (by omega)) (z_up_ne (by decide)) (z_up_ne (by decide)) (fun c j h1 h2 => z_up_ne (by omega)) (fun j h1 => z_up_ne (by decide)) (fun j h1 => z_up_ne (by decide)) (fun j h1 => z_up_ne (by decide)) (fun j h1 => z_up_ne (by decide))
    · exact rt.fr (upC _ _ (by omega)) (fun c j h1 h2 => upC _ _ (by omega)) (z_up_ne (by decide)) (fun c j h1 h2 => z_up_ne (by omega))
    · rw [z_up_ne (by decide), upC _ _ (by omega)]
      exact rb
    · rw [upC _ _ (by omega)]
      exact rn
    · rw [upC _ _ (by omega)]
      exact ⟨rp0, rp1⟩
  obtain ⟨a, μ', ν', t1, t2, t3, t4, t5, -, -⟩ := all_both (L := L) rc rm dc hr'
  rw [t1, t2, Option.bind_some, Option.bind_some]
  exact ⟨1, μ', ν', rfl, rfl, fun c j g => (t3 c j g).trans (upC c j (by omega)), fun c j g => (t4 c j g).trans (z_up_ne (by omega)), t5⟩
