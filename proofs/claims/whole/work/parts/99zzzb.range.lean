/-! range -/
theorem e_fb {L : Nat} {ρ : Nat → Nat → Nat} {μ ν : Nat → Nat → Int} (rc : Rc ρ) (rm : Rm ρ) {ho sp : Int} {D : Nat} (hD : μ 1 1 = D) (D40 : D ≤ 40) (dv : ν 233 1 = D) (dd : ∀ j : Nat, j < D → ν 234 j = μ 2 j) : ∀ (m k N N' : Nat), k + m = D → m < N → m < N' → ∃ t : Nat, t ≤ D ∧ f_SL_firstBlank_2 N 1 (k : Int) (SH L, ρ, μ) = some ((t : Int), (SH L, ρ, μ)) ∧ f_Mo_range_23 N' 233 ho sp (k : Int) (SH L, ρ, ν) = f_Mo_range_48 233 ho sp (t : Int) (SH L, ρ, ν) := by
  intro m
  induction m with
  | zero =>
    intro k N N' hk hN hN'
    obtain ⟨N, rfl⟩ : ∃ x, N = x + 1 := ⟨N - 1, by omega⟩
    obtain ⟨N', rfl⟩ : ∃ x, N' = x + 1 := ⟨N' - 1, by omega⟩
    have hk' : k = D := by omega
    subst hk'
    refine ⟨k, Nat.le_refl _, ?_, ?_⟩
    · rw [f_SL_firstBlank_2]
      show (z_gI _ _ _ _).bind _ = _
      rw [zgI_k s_1, Option.bind_some, hD, if_pos (show (k : Int) ≤ (k : Int) by omega), Option.bind_some]
    · rw [f_Mo_range_23]
      show (z_gI _ _ _ _).bind _ = _
      rw [zgI_k s_233, Option.bind_some, dv, if_pos (show (k : Int) ≤ (k : Int) by omega)]
  | succ m ih =>
    intro k N N' hk hN hN'
    obtain ⟨N, rfl⟩ : ∃ x, N = x + 1 := ⟨N - 1, by omega⟩
    obtain ⟨N', rfl⟩ : ∃ x, N' = x + 1 := ⟨N' - 1, by omega⟩
    have d1 := dd k (by omega)
    by_cases hb : μ 2 k = 32
    · refine ⟨k, by omega, ?_, ?_⟩
      · rw [f_SL_firstBlank_2]
        show (z_gI _ _ _ _).bind _ = _
        rw [zgI_k s_1, Option.bind_some, hD, if_neg (show ¬ (D : Int) ≤ (k : Int) by omega), zgR_k s_1 rc.1.1 (by decide), Option.bind_some, zaI_k s_2 (by omega) (by omega), Option.bind_some, Int.toNat_natCast, if_pos hb]
      · rw [f_Mo_range_23]
        show (z_gI _ _ _ _).bind _ = _
        rw [zgI_k s_233, Option.bind_some, dv, if_neg (show ¬ (D : Int) ≤ (k : Int) by omega), zgR_k s_233 (m_2 rm) (by decide), Option.bind_some, zaI_k s_234 (by omega) (by omega), Option.bind_some, Int.toNat_natCast, if_pos (d1.trans hb)]
    · obtain ⟨t, i0, i1, i2⟩ := ih (k + 1) N N' (by omega) (by omega) (by omega)
      rw [show ((k + 1 : Nat) : Int) = (k : Int) + 1 by omega] at i1 i2
      refine ⟨t, i0, ?_, ?_⟩
      · rw [f_SL_firstBlank_2]
        show (z_gI _ _ _ _).bind _ = _
        rw [zgI_k s_1, Option.bind_some, hD, if_neg (show ¬ (D : Int) ≤ (k : Int) by omega), zgR_k s_1 rc.1.1 (by decide), Option.bind_some, zaI_k s_2 (by omega) (by omega), Option.bind_some, Int.toNat_natCast, if_neg hb, zw_of (x := (k : Int) + 1) (by omega) (by omega)]
        exact i1
      · rw [f_Mo_range_23]
        show (z_gI _ _ _ _).bind _ = _
        rw [zgI_k s_233, Option.bind_some, dv, if_neg (show ¬ (D : Int) ≤ (k : Int) by omega), zgR_k s_233 (m_2 rm) (by decide), Option.bind_some, zaI_k s_234 (by omega) (by omega), Option.bind_some, Int.toNat_natCast, if_neg (show ¬ ν 234 k = 32 by rw [d1]; exact hb), zw_of (x := (k : Int) + 1) (by omega) (by omega)]
        exact i2
theorem e_short {D p : Nat} (hD : D ≤ 40) {e : Int} {h : zH} : f_Pr_parse 3 2 ((D : Int) + 1) (D : Int) e p h = some (0, h) := by
  unfold f_Pr_parse
  rw [zw_of (x := (D : Int) - ((D : Int) + 1)) (by omega) (by omega), if_pos (by omega)]
theorem c_range (L : Nat) (ho sp : Int) : CaseR L (f_SL_range 1 ho sp) (f_Mo_range 233 ho sp) := CaseR.two0 fun ρ μ ν rc rm dc hr => by
  obtain ⟨rd, rr, -⟩ := id hr
  obtain ⟨d0, d40, de, dd⟩ := id rd
  have dn : ∀ a : Int, ∃ (a' : Int) (μ1 ν1 : Nat → Nat → Int), some (a, (SH L, ρ, μ)) = some (a', (SH L, ρ, μ1)) ∧ some (a, (SH L, ρ, ν)) = some (a', (SH L, ρ, ν1)) ∧ FrB μ μ1 ∧ FrD ν ν1 ∧ Rel ρ μ1 ν1 := fun a => ⟨a, μ, ν, rfl, rfl, fun _ _ _ => rfl, fun _ _ _ => rfl, hr⟩
  obtain ⟨z, z1, z2, z3⟩ := range_both (L := L) rc rm rr ho
  unfold f_SL_range f_Mo_range
  rw [zgR_k s_1 rc.1.2.2.1 (by decide), Option.bind_some, zck_k s_24, Option.bind_some, z1, Option.bind_some, zck_k s_233, Option.bind_some, z2, Option.bind_some]
  dsimp only
  obtain ⟨z3, -⟩ | z3 := z3
  case inr =>
    rw [if_pos z3, if_pos z3]
    exact dn _
  rw [if_neg (show ¬ z = 0 by omega), if_neg (show ¬ z = 0 by omega)]
  by_cases g : 1 ≤ sp ∧ sp ≤ 99
  case neg =>
    rw [e_sc0 g, Option.bind_some]
    dsimp only
    rw [if_pos (show (0 : Int) = 0 from rfl)]
    by_cases h1 : sp < 1
    · rw [if_pos h1]
      exact dn _
    · rw [if_neg h1, if_neg (show ¬ sp ≤ 99 by omega)]
      exact dn _
  obtain ⟨D, hD⟩ : ∃ n : Nat, μ 1 1 = n := ⟨(μ 1 1).toNat, by omega⟩
  obtain ⟨g0, g9, ge, -⟩ := id rr
  obtain ⟨R, hR⟩ : ∃ n : Nat, μ 24 1 = n := ⟨(μ 24 1).toNat, by omega⟩
  obtain ⟨r, hq⟩ : ∃ r, r = R + 1 := ⟨_, rfl⟩
  have dv : ν 233 1 = D := de.trans hD
  have rv : ν 233 3 = R := ge.trans hR
  obtain ⟨q1, q2, q3, q4, q5⟩ := r_pt rc (show r < 11 by omega)
  obtain ⟨k, hk, f1, f2⟩ := e_fb (L := L) (ho := ho) (sp := sp) rc rm hD (by omega) dv (fun j hj => (dd j (by omega)).1) D 0 100000 100000 (by omega) (by omega) (by omega)
  have f1' : f_SL_firstBlank 1 (SH L, ρ, μ) = some ((k : Int), (SH L, ρ, μ)) := by
    unfold f_SL_firstBlank
    exact f1
  have f2' : f_Mo_range_23 100000 233 ho sp 0 (SH L, ρ, ν) = f_Mo_range_48 233 ho sp (k : Int) (SH L, ρ, ν) := f2
  obtain ⟨y, μ2, νa, νb, b1, b2, b3, b4, b5, b6, b7⟩ := pat_both (L := L) (ρ := ρ) (p := 37 + 13 * r) (en := false) (μ := μ) (ν := ν) rc rm (s_pt (by omega)) q1 (by omega) (pt := 20) (by omega) rd (a := 0) (b := k) (Nat.zero_le _) (by omega)
  have hy : y = 0 ∨ y = 1 := by
    obtain h | ⟨h, -⟩ := b7
    · exact Or.inl h
    · exact Or.inr h
  have c1 : f_Pr_parse 3 2 0 (k : Int) 0 (37 + 13 * r) (SH L, ρ, μ) = some (y, (SH L, ρ, μ2)) := b1
  have m1 : f_Mo_isPattern 233 0 (k : Int) 0 (SH L, ρ, ν) = some (y, (SH L, ρ, νb)) := m_isP b2 b3 hy
  have fu : FrU r μ μ2 := b4.u (Or.inl rfl)
  have D2 : μ2 1 1 = D := (fu 1 1 (by omega) (by omega)).trans hD
  rw [e_sc1 g, Option.bind_some]
  dsimp only
  rw [if_neg (show ¬ (1 : Int) = 0 by decide), zgR_k s_1 rc.1.2.2.1 (by decide), Option.bind_some, zck_k s_24, Option.bind_some, e_nextR (L := L) rc hR hq (by omega), Option.bind_some]
  dsimp only
  rw [zck_k s_1, Option.bind_some, f1', Option.bind_some]
  dsimp only
  rw [zgR_k s_1 rc.1.2.1 (by decide), Option.bind_some, zgR_k s_1 rc.1.1 (by decide), Option.bind_some, zgR_k (sr_0 (show r < 11 by omega)) q4 (by omega), Option.bind_some, zck_k s_3, Option.bind_some, c1, Option.bind_some, if_neg (show ¬ sp < 1 by omega), if_pos (show sp ≤ 99 by omega), f2']
  dsimp only
  unfold f_Mo_range_48
  rw [zgI_k s_233, Option.bind_some, dv]
  by_cases kD : (k : Int) = D
  · rw [if_pos kD]
    have dk : ∃ (a' : Int) (μ1 ν1 : Nat → Nat → Int), some ((-2 : Int), (SH L, ρ, μ2)) = some (a', (SH L, ρ, μ1)) ∧ some ((-2 : Int), (SH L, ρ, ν)) = some (a', (SH L, ρ, ν1)) ∧ FrB μ μ1 ∧ FrD ν ν1 ∧ Rel ρ μ1 ν1 := ⟨-2, μ2, ν, rfl, rfl, fun c j h => fu c j (by omega) (by omega), fun _ _ _ => rfl, hr.pu dc hR hq (by omega) fu FrK.rf⟩
    by_cases y0 : y = 0
    · rw [if_pos y0]
      exact dk
    · rw [if_neg y0, zgR_k s_1 rc.1.2.1 (by decide), Option.bind_some, zgR_k s_1 rc.1.1 (by decide), Option.bind_some, zgI_k s_1, Option.bind_some, D2, zgR_k (sr_0 (show r < 11 by omega)) q5 (by omega), Option.bind_some, zck_k s_3, Option.bind_some, kD, zw_of (x := (D : Int) + 1) (by omega) (by omega), e_short (by omega), Option.bind_some]
      dsimp only
      rw [if_pos (show (0 : Int) = 0 from rfl)]
      exact dk
  have kD' : k + 1 ≤ D := by omega
  rw [if_neg kD, zck_k s_233, Option.bind_some, m1, Option.bind_some]
  dsimp only
  by_cases y0 : y = 0
  · rw [if_pos y0, if_pos y0]
    exact ⟨-2, μ2, νb, rfl, rfl, fun c j h => fu c j (by omega) (by omega), fun c j h => b5.1 c j (by omega), hr.pu dc hR hq (by omega) fu b5⟩
  obtain ⟨x, μ3, νc, νd, a1, a2, a3, a4, a5, a6, a7⟩ := pat_both (L := L) (ρ := ρ) (p := 43 + 13 * r) (en := true) (μ := μ2) (ν := νb) rc rm (s_pe (by omega)) q2 (by omega) (pt := 20) (by omega) (rd.fr (fu 1 1 (by omega) (by omega)) (fun j => fu 2 j (by omega) (by omega)) (b5.1 233 1 (by omega)) (fun j => b5.1 234 j (by omega))) (a := k + 1) (b := D) kD' (by omega)
  have hx : x = 0 ∨ x = 1 := by
    obtain h | ⟨h, -⟩ := a7
    · exact Or.inl h
    · exact Or.inr h
  have ek : ((k + 1 : Nat) : Int) = (k : Int) + 1 := by omega
  rw [ek] at a1 a2
  have c2 : f_Pr_parse 3 2 ((k : Int) + 1) (D : Int) 1 (43 + 13 * r) (SH L, ρ, μ2) = some (x, (SH L, ρ, μ3)) := a1
  have m2 : f_Mo_isPattern 233 ((k : Int) + 1) (D : Int) 1 (SH L, ρ, νb) = some (x, (SH L, ρ, νd)) := m_isP a2 a3 hx
  have fu3 : FrU r μ μ3 := fu.tr (a4.u (Or.inr rfl))
  have fk : FrK 20 ν νd := b5.tr a5
  rw [if_neg y0, if_neg y0, zgR_k s_1 rc.1.2.1 (by decide), Option.bind_some, zgR_k s_1 rc.1.1 (by decide), Option.bind_some, zgI_k s_1, Option.bind_some, D2, zgR_k (sr_0 (show r < 11 by omega)) q5 (by omega), Option.bind_some, zck_k s_3, Option.bind_some, zw_of (x := (k : Int) + 1) (by omega) (by omega), c2, Option.bind_some, zgI_k s_233, Option.bind_some, (b5.1 233 1 (by omega)).trans dv, zck_k s_233, Option.bind_some, m2, Option.bind_some]
  dsimp only
  by_cases x0 : x = 0
  · rw [if_pos x0, if_pos x0]
    exact ⟨-2, μ3, νd, rfl, rfl, fun c j h => fu3 c j (by omega) (by omega), fun c j h => fk.1 c j (by omega), hr.pu dc hR hq (by omega) fu3 fk⟩
  rw [if_neg x0, if_neg x0, zgR_k s_1 rc.1.2.2.1 (by decide), Option.bind_some, zgI_k s_24, Option.bind_some, zgI_k s_233, Option.bind_some, (fu3 24 1 (by omega) (by omega)).trans hR, (fk.1 233 3 (by omega)).trans rv]
  by_cases R9 : (R : Int) = 9
  · rw [if_pos R9, if_pos R9]
    exact ⟨-3, μ3, νd, rfl, rfl, fun c j h => fu3 c j (by omega) (by omega), fun c j h => fk.1 c j (by omega), hr.pu dc hR hq (by omega) fu3 fk⟩
  rw [if_neg R9, if_neg R9, zck_k s_233, Option.bind_some]
  obtain ⟨ν1, e1⟩ : ∃ x, x = z_up (z_up (z_up (z_up νd 233 3 (r : Int)) 236 r ho) 237 r sp) 235 r ((1 : Int) % 2) := ⟨_, rfl⟩
  obtain ⟨y', μ2', ν0, ν2, k1, k2, k3, k4, k5, k6, k7⟩ := pat_both (L := L) (ρ := ρ) (p := 37 + 13 * r) (en := false) (μ := μ) (ν := ν1) rc rm (s_pt (by omega)) q1 (by omega) (pt := 2 * r) (by omega) (rd.mk1 rfl (fun _ => rfl) fk e1) (a := 0) (b := k) (Nat.zero_le _) (by omega)
  obtain ⟨ey, em⟩ := par_eq k1 b1
  rw [em] at k7
  have hp : RPat μ2 ν2 (37 + 13 * r) (2 * r) false := by
    obtain h | ⟨-, h⟩ := k7
    · exact absurd (ey.symm.trans h) y0
    · exact h
  have rd1 : RDraft μ2 ν1 := rd.mk1 (fu 1 1 (by omega) (by omega)) (fun j => fu 2 j (by omega) (by omega)) fk e1
  obtain ⟨x', μ3', ν3, ν4, i1, i2, i3, i4, i5, i6, i7⟩ := pat_both (L := L) (ρ := ρ) (p := 43 + 13 * r) (en := true) (μ := μ2) (ν := ν2) rc rm (s_pe (by omega)) q2 (by omega) (pt := 2 * r + 1) (by omega) (rd1.fr rfl (fun _ => rfl) (k5.1 233 1 (by omega)) (fun j => k5.1 234 j (by omega))) (a := k + 1) (b := D) kD' (by omega)
  rw [ek] at i1 i2
  obtain ⟨ex, em3⟩ := par_eq i1 a1
  rw [em3] at i7
  have hp2 : RPat μ3 ν4 (43 + 13 * r) (2 * r + 1) true := by
    obtain h | ⟨-, h⟩ := i7
    · exact absurd (ex.symm.trans h) x0
    · exact h
  have hp1 : RPat μ3 ν4 (37 + 13 * r) (2 * r) false := hp.fr (fun c j h1 h2 => a4 c j (by omega) (by omega)) (fun j hj => ⟨i5.2.1 239 j (Or.inl rfl) (by omega), i5.2.1 247 j (Or.inr rfl) (by omega)⟩) (fun c j h1 h2 h3 h4 => i5.2.2 c j h1 h2 (by omega))
  have v3 : ν1 233 3 = r := by rw [e1, z_up_ne (by decide), z_up_ne (by decide), z_up_ne (by decide), z_up_eq]
  have n2 : ν2 233 3 = r := (k5.1 233 3 (by omega)).trans v3
  have n3 : ν3 233 3 = r := (i6.1 233 3 (by omega)).trans n2
  have nD : ν2 233 1 = D := (k5.1 233 1 (by omega)).trans (rd1.2.2.1.trans D2)
  have i2' : f_Mo_lift 233 (2 * (r : Int) + 1) ((k : Int) + 1) (D : Int) (SH L, ρ, ν2) = some (SH L, ρ, ν3) := by
    rw [show 2 * (r : Int) + 1 = ((2 * r + 1 : Nat) : Int) by omega]
    exact i2
  have i3' : f_Mo_parse 233 (2 * (r : Int) + 1) 1 (SH L, ρ, ν3) = some (x', (SH L, ρ, ν4)) := by
    rw [show 2 * (r : Int) + 1 = ((2 * r + 1 : Nat) : Int) by omega]
    exact i3
  have mk := m_make (L := L) (b := (k : Int)) rm ((fk.1 233 3 (by omega)).trans rv) hq (by omega) e1 k2 k3 k6
  rw [if_neg (show ¬ (1 : Int) = 0 by decide), zgI_k s_233, Option.bind_some, n2, zgI_k s_233, Option.bind_some, nD, zck_k s_233, Option.bind_some, zw_of (x := 2 * (r : Int)) (by omega) (by omega), zw_of (x := 2 * (r : Int) + 1) (by omega) (by omega), zw_of (x := (k : Int) + 1) (by omega) (by omega), i2', Option.bind_some, zgI_k s_233, Option.bind_some, n3, zck_k s_233, Option.bind_some, zw_of (x := 2 * (r : Int)) (by omega) (by omega), zw_of (x := 2 * (r : Int) + 1) (by omega) (by omega), i3', Option.bind_some] at mk
  obtain ⟨μ', ν', t1, t2, t3, t4, t5⟩ := mk_fin (L := L) rc rm dc hr hR (by omega) hq g (Or.inr rfl) fu3 fk e1 ((k5.m (Nat.le_refl _)).tr (i5.m (by omega))) hp1 (fun _ => hp2)
  have mk2 : f_Mo_make 233 ho sp 1 (k : Int) (SH L, ρ, νd) = f_Mo_make_105 233 (SH L, ρ, ν4) := mk
  rw [mk2, t2, Option.bind_some]
  exact ⟨(r : Int), μ', ν', t1, rfl, t3, t4, t5⟩
