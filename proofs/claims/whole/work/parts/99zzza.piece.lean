/-! piece -/
theorem par_eq {L : Nat} {ρ : Nat → Nat → Nat} {x : Option (Int × zH)} {z y : Int} {a b : Nat → Nat → Int} (h : x = some (z, (SH L, ρ, a))) (g : x = some (y, (SH L, ρ, b))) : z = y ∧ a = b := by
  have q := Option.some.inj (h.symm.trans g)
  exact ⟨congrArg Prod.fst q, congrArg (fun w => w.2.2.2) q⟩
/-- the draft, when rules are written -/
theorem RDraft.mk1 {μ μ2 ν νb ν1 : Nat → Nat → Int} {r : Nat} {ho sp is : Int} (rd : RDraft μ ν) (h1 : μ2 1 1 = μ 1 1) (h2 : ∀ j, μ2 2 j = μ 2 j) (hK : FrK 20 ν νb) (e1 : ν1 = z_up (z_up (z_up (z_up νb 233 3 (r : Int)) 236 r ho) 237 r sp) 235 r is) : RDraft μ2 ν1 := by
  subst e1
  refine rd.fr h1 h2 ?_ (fun j => ?_)
  · rw [z_up_ne (by decide), z_up_ne (by decide), z_up_ne (by decide), z_up_nj (by decide), hK.1 233 1 (by omega)]
  · rw [z_up_ne (by decide), z_up_ne (by decide), z_up_ne (by decide), z_up_ne (by decide), hK.1 234 j (by omega)]
theorem c_piece (L : Nat) (ho sp : Int) : CaseR L (f_SL_piece 1 ho sp) (f_Mo_piece 233 ho sp) := CaseR.two0 fun ρ μ ν rc rm dc hr => by
  obtain ⟨rd, rr, -⟩ := id hr
  obtain ⟨d0, d40, de, -⟩ := id rd
  have dn : ∀ a : Int, ∃ (a' : Int) (μ1 ν1 : Nat → Nat → Int), some (a, (SH L, ρ, μ)) = some (a', (SH L, ρ, μ1)) ∧ some (a, (SH L, ρ, ν)) = some (a', (SH L, ρ, ν1)) ∧ FrB μ μ1 ∧ FrD ν ν1 ∧ Rel ρ μ1 ν1 := fun a => ⟨a, μ, ν, rfl, rfl, fun _ _ _ => rfl, fun _ _ _ => rfl, hr⟩
  obtain ⟨z, z1, z2, z3⟩ := range_both (L := L) rc rm rr ho
  unfold f_SL_piece f_Mo_piece
  rw [zgR_k s_1 rc.1.2.2.1 (by decide), Option.bind_some, zck_k s_24, Option.bind_some, z1, Option.bind_some, zck_k s_233, Option.bind_some, z2, Option.bind_some]
  dsimp only
  obtain ⟨z3, -⟩ | z3 := z3
  case inr =>
    rw [if_pos z3, if_pos z3]
    exact dn _
  rw [if_neg (show ¬ z = 0 by omega), if_neg (show ¬ z = 0 by omega)]
  by_cases g : 1 ≤ sp ∧ sp ≤ 99
  case neg =>
    rw [e_sc0 g, Option.bind_some]
    dsimp only
    rw [if_pos (show (0 : Int) = 0 from rfl)]
    by_cases h1 : sp < 1
    · rw [if_pos h1]
      exact dn _
    · rw [if_neg h1, if_neg (show ¬ sp ≤ 99 by omega)]
      exact dn _
  obtain ⟨D, hD⟩ : ∃ n : Nat, μ 1 1 = n := ⟨(μ 1 1).toNat, by omega⟩
  obtain ⟨g0, g9, ge, -⟩ := id rr
  obtain ⟨R, hR⟩ : ∃ n : Nat, μ 24 1 = n := ⟨(μ 24 1).toNat, by omega⟩
  obtain ⟨r, hq⟩ : ∃ r, r = R + 1 := ⟨_, rfl⟩
  have dv : ν 233 1 = D := de.trans hD
  have rv : ν 233 3 = R := ge.trans hR
  obtain ⟨q1, q2, q3, q4, q5⟩ := r_pt rc (show r < 11 by omega)
  obtain ⟨y, μ2, νa, νb, b1, b2, b3, b4, b5, b6, b7⟩ := pat_both (L := L) (ρ := ρ) (p := 37 + 13 * r) (en := false) (μ := μ) (ν := ν) rc rm (s_pt (by omega)) q1 (by omega) (pt := 20) (by omega) rd (a := 0) (b := D) (Nat.zero_le _) (by omega)
  have hy : y = 0 ∨ y = 1 := by
    obtain h | ⟨h, -⟩ := b7
    · exact Or.inl h
    · exact Or.inr h
  have c1 : f_Pr_parse 3 2 0 (D : Int) 0 (37 + 13 * r) (SH L, ρ, μ) = some (y, (SH L, ρ, μ2)) := b1
  have m1 : f_Mo_isPattern 233 0 (D : Int) 0 (SH L, ρ, ν) = some (y, (SH L, ρ, νb)) := m_isP b2 b3 hy
  have fu : FrU r μ μ2 := b4.u (Or.inl rfl)
  rw [e_sc1 g, Option.bind_some]
  dsimp only
  rw [if_neg (show ¬ (1 : Int) = 0 by decide), zgR_k s_1 rc.1.2.1 (by decide), Option.bind_some, zgR_k s_1 rc.1.1 (by decide), Option.bind_some, zgI_k s_1, Option.bind_some, hD, zgR_k s_1 rc.1.2.2.1 (by decide), Option.bind_some, zck_k s_24, Option.bind_some, e_nextR (L := L) rc hR hq (by omega), Option.bind_some]
  dsimp only
  rw [zgR_k (sr_0 (show r < 11 by omega)) q4 (by omega), Option.bind_some, zck_k s_3, Option.bind_some, c1, Option.bind_some, if_neg (show ¬ sp < 1 by omega), if_pos (show sp ≤ 99 by omega), zgI_k s_233, Option.bind_some, dv, zck_k s_233, Option.bind_some, m1, Option.bind_some]
  dsimp only
  by_cases y0 : y = 0
  · rw [if_pos y0, if_pos y0]
    exact ⟨-2, μ2, νb, rfl, rfl, fun c j h => fu c j (by omega) (by omega), fun c j h => b5.1 c j (by omega), hr.pu dc hR hq (by omega) fu b5⟩
  rw [if_neg y0, if_neg y0, zgR_k s_1 rc.1.2.2.1 (by decide), Option.bind_some, zgI_k s_24, Option.bind_some, zgI_k s_233, Option.bind_some, (fu 24 1 (by omega) (by omega)).trans hR, (b5.1 233 3 (by omega)).trans rv]
  by_cases R9 : (R : Int) = 9
  · rw [if_pos R9, if_pos R9]
    exact ⟨-3, μ2, νb, rfl, rfl, fun c j h => fu c j (by omega) (by omega), fun c j h => b5.1 c j (by omega), hr.pu dc hR hq (by omega) fu b5⟩
  rw [if_neg R9, if_neg R9, zgI_k s_233, Option.bind_some, (b5.1 233 1 (by omega)).trans dv, zck_k s_233, Option.bind_some]
  obtain ⟨ν1, e1⟩ : ∃ x, x = z_up (z_up (z_up (z_up νb 233 3 (r : Int)) 236 r ho) 237 r sp) 235 r ((0 : Int) % 2) := ⟨_, rfl⟩
  obtain ⟨y', μ2', ν0, ν2, k1, k2, k3, k4, k5, k6, k7⟩ := pat_both (L := L) (ρ := ρ) (p := 37 + 13 * r) (en := false) (μ := μ) (ν := ν1) rc rm (s_pt (by omega)) q1 (by omega) (pt := 2 * r) (by omega) (rd.mk1 rfl (fun _ => rfl) b5 e1) (a := 0) (b := D) (Nat.zero_le _) (by omega)
  obtain ⟨ey, em⟩ := par_eq k1 b1
  rw [em] at k7
  have hp : RPat μ2 ν2 (37 + 13 * r) (2 * r) false := by
    obtain h | ⟨-, h⟩ := k7
    · exact absurd (ey.symm.trans h) y0
    · exact h
  have mk := m_make (L := L) (b := (D : Int)) rm ((b5.1 233 3 (by omega)).trans rv) hq (by omega) e1 k2 k3 k6
  rw [if_pos (show (0 : Int) = 0 from rfl)] at mk
  obtain ⟨μ', ν', t1, t2, t3, t4, t5⟩ := mk_fin (L := L) rc rm dc hr hR (by omega) hq g (Or.inl rfl) fu b5 e1 (k5.m (Nat.le_refl _)) hp (fun h => absurd h (by decide))
  rw [mk, t2, Option.bind_some]
  exact ⟨(r : Int), μ', ν', t1, rfl, t3, t4, t5⟩
