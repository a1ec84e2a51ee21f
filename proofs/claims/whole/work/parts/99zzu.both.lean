/-! Both parsers, from one text -/
section Bth
variable {L : Nat} {ρ : Nat → Nat → Nat} {p : Nat} {en : Bool} {μ ν : Nat → Nat → Int}
/-- the text from a to b is what the model has in slot pt, cut at 21 -/
theorem parse_both (rc : Rc ρ) (rm : Rm ρ) (hp : ptS L p) (pr : ptR ρ p) (hp6 : 36 ≤ p) {pt : Nat} (hpt : pt < 22) {a b n : Nat} (hb : b ≤ 40) (hab : a + n = b) (hc : ∀ j, j < n → 32 ≤ μ 2 (a + j) ∧ μ 2 (a + j) ≤ 126) (h9 : ν 239 pt = if n ≤ 21 then (n : Int) else 21) (ht : ∀ j, j < n → j < 21 → ν 240 (21 * pt + j) = μ 2 (a + j)) : ∃ (z : Int) (μ' ν' : Nat → Nat → Int), f_Pr_parse 3 2 (a : Int) (b : Int) (enI en) p (SH L, ρ, μ) = some (z, (SH L, ρ, μ')) ∧ f_Mo_parse 233 (pt : Int) (enI en) (SH L, ρ, ν) = some (z, (SH L, ρ, ν')) ∧ POk p pt en μ ν z μ' ν' := by
  obtain ⟨n', hn'⟩ : ∃ x : Nat, (x : Int) = if n ≤ 21 then (n : Int) else 21 := by
    by_cases g : n ≤ 21
    · exact ⟨n, by rw [if_pos g]⟩
    · exact ⟨21, by rw [if_neg g]; rfl⟩
  rw [← hn'] at h9
  have hle : n' ≤ 21 := by
    by_cases g : n ≤ 21
    · rw [if_pos g] at hn'; omega
    · rw [if_neg g] at hn'; omega
  have e9 : f_Mo_parse 233 (pt : Int) (enI en) (SH L, ρ, ν) = f_Mo_parse_10 100000 233 (pt : Int) (enI en) (n' : Int) ((0 : Nat) : Int) (SH L, ρ, ν) := by
    unfold f_Mo_parse
    rw [zgR_k s_233 (m_8 rm) (by decide), Option.bind_some, zaI_k s_239 (by omega) (by omega), Option.bind_some, Int.toNat_natCast, h9]
    rfl
  have mb := m_blankL (L := L) (ρ := ρ) (ν := ν) rm hpt h9 hle (e := enI en) n' 0 100000 (by omega) (by omega)
  by_cases g : 1 ≤ n ∧ n ≤ 20
  · have en' : n' = n := by
      rw [if_pos (by omega)] at hn'
      omega
    subst en'
    have ta : ∀ j, j < n' → tA ν pt j = μ 2 (a + j) := fun j hj => by
      unfold tA
      rw [if_pos (by omega), ht j hj (by omega)]
    have ta0 : ∀ j, n' ≤ j → tA ν pt j = 0 := fun j hj => by
      unfold tA
      rw [if_neg (by omega)]
    obtain ⟨bl, μ0, r1, r2, r3, r4, r5, r6, r7⟩ := e_parse0 (L := L) (ρ := ρ) (μ := μ) (en := en) (c := tA ν pt) rc hp hp6 (a := a) (b := b) (n := n') s_2 hb (by decide) hab g.1 g.2 (fun j hj => by rw [ta j hj]; exact ⟨rfl, hc j hj⟩) ta0
    obtain ⟨z1, z2⟩ | ⟨z1, j, z2, z3⟩ := r7
    · obtain ⟨m1, m2⟩ | ⟨⟨j, m1, m2, m3⟩, -⟩ := mb
      · obtain ⟨ν0, hν⟩ : ∃ x, x = z_up (z_up (z_up (z_up (z_up ν 248 0 (-1)) 249 0 (-1)) 250 0 0) 251 0 1) 247 pt (-1) := ⟨_, rfl⟩
        have fq : FrQ pt ν ν0 := by
          rw [hν]
          exact ((((FrQ.rf.upL (by decide)).upL (by decide)).upL (by decide)).upL (by decide)).upF
        rw [if_neg (by omega), if_pos (by omega), ← hν] at m2
        have st := PHp.start (p := p) (pt := pt) (en := en) (ν := ν0) r3 fq.ta ((fq.1 239 pt (by omega)).trans h9) z2 (by rw [z1] at r4; exact r4) r5 r6 (by
          rw [hν]
          exact ⟨by rw [z_up_ne (by omega), z_up_ne (by omega), z_up_ne (by omega), z_up_ne (by omega), z_up_eq], by rw [z_up_ne (by omega), z_up_ne (by omega), z_up_ne (by omega), z_up_eq], by rw [z_up_ne (by omega), z_up_ne (by omega), z_up_eq], by rw [z_up_ne (by omega), z_up_eq], z_up_eq⟩)
        obtain ⟨z, μ', ν', s1, s2, s3, s4, s5⟩ := p_loop (L := L) rc rm hp pr hp6 hpt n' 0 0 100000 100000 0 0 0 _ _ _ _ (by omega) (Nat.le_refl _) (by omega) (by omega) st
        exact ⟨z, μ', ν', r1.trans s1, e9.trans (m2.trans s2), r2.tr s3, fq.tr s4, s5⟩
      · exact absurd m3 (z2 j m2)
    · obtain ⟨m1, -⟩ | ⟨-, m2⟩ := mb
      · exact absurd z3 (m1 j (Nat.zero_le _) z2)
      · have pb : PBd p μ0 := ⟨r4.2.2.1.trans z1, 0, 0, 0, fun _ => 0, by decide, by decide, by decide, r4.2.2.2.2, r5.1, r6.1, r6.2.2.1, fun m hm => absurd hm (Nat.not_lt_zero m)⟩
        obtain ⟨μ', s1, s2⟩ := e_endB (L := L) rc hp pr hp6 pb
        refine ⟨0, μ', ν, r1.trans ?_, e9.trans m2, r2.tr s2, FrQ.rf, Or.inl rfl⟩
        rw [show (100000 : Nat) = 99999 + 1 from rfl, f_Pr_parse_80]
        show (if _ then _ else _) = _
        rw [if_neg (by decide), zgI_k s_3, Option.bind_some, zgI_k s_3, Option.bind_some, zgI_k s_3, Option.bind_some, r4.2.2.1, z1, if_neg (show ¬ (1 : Int) = 0 by decide), s1]
        by_cases g2 : μ0 3 1 ≤ μ0 3 2
        · rw [if_pos g2]
        · rw [if_neg g2]
  · refine ⟨0, μ, ν, ?_, e9.trans ?_, FrP.rf, FrQ.rf, Or.inl rfl⟩
    · unfold f_Pr_parse
      rw [zw_of (x := (b : Int) - a) (by omega) (by omega), show (b : Int) - a = (n : Int) by omega]
      by_cases g1 : (n : Int) < 1
      · rw [if_pos g1]
      · rw [if_neg g1, if_neg (by omega)]
    · obtain ⟨-, m2⟩ | ⟨-, m2⟩ := mb
      · rw [m2]
        by_cases g1 : (n' : Int) < 1
        · rw [if_pos g1]
        · rw [if_neg g1, if_neg (by
            by_cases g3 : n ≤ 21
            · rw [if_pos g3] at hn'; omega
            · rw [if_neg g3] at hn'; omega)]
      · exact m2
end Bth
