/-! One turn: a bar -/
section Trb
variable {L : Nat} {ρ : Nat → Nat → Nat} {p pt n sc i lv gr : Nat} {en : Bool} {c : Nat → Int} {μ ν : Nat → Nat → Int} {g : PG} {E : Nat → Nat}
theorem m_bar (rm : Rm ρ) (hpt : pt < 22) (h : PHp p pt n en c μ ν g sc i lv gr E) (hi : i < n) (hc : c i = 124) : ∃ ν', FrQ pt ν ν' ∧ (∀ N, f_Mo_parse_71 (N + 1) 233 (pt : Int) (enI en) (n : Int) (lv : Int) (gr : Int) (i : Int) (SH L, ρ, ν) = f_Mo_parse_71 N 233 (pt : Int) (enI en) (n : Int) (lv : Int) (gr : Int) ((i + 1 : Nat) : Int) (SH L, ρ, ν')) ∧
    (∀ q j, q < 245 → ν' q j = ν q j) ∧ (∀ j, ν' 248 j = ν 248 j) ∧ (∀ q j, 248 ≤ q → j ≠ lv → ν' q j = ν q j) ∧ (ν' 249 lv = i ∧ ν' 250 lv = (if ν 250 lv = 0 ∧ ν 251 lv = 0 then 0 else 1) ∧ ν' 251 lv = 1) ∧ (∀ m, m ≠ i → ν' 245 (21 * pt + m) = ν 245 (21 * pt + m)) ∧ ν' 245 (21 * pt + i) = ν 248 lv ∧ (∀ m : Nat, m ≠ i → ν 249 lv ≠ m → ν' 246 (21 * pt + m) = ν 246 (21 * pt + m)) ∧ ν' 246 (21 * pt + i) = -1 ∧ (∀ m : Nat, ν 249 lv = m → ν' 246 (21 * pt + m) = i) ∧ (ν 249 lv = -1 → ν' 247 pt = i) ∧ (ν 249 lv ≠ -1 → ν' 247 pt = ν 247 pt) := by
  have a0 := mt_00 (L := L) rm hpt h hi
  obtain ⟨⟨c1, c2, c3, c4⟩, ⟨d1, d2, d3, d4, d5⟩, ⟨p5, p6⟩, rp, lf, iv⟩ := id h
  obtain ⟨⟨q1, q2, q3, q4, q5⟩, ky, tg, -, -, lf0, -, -, zc⟩ := id iv
  have n20 := c1.2.1
  obtain ⟨x1, x2, -, -, -, -, ⟨x7, x8⟩, -⟩ := id (lf0 lv (Nat.le_refl _))
  have lo0 : -1 ≤ ν 248 lv := by
    obtain ⟨-, z⟩ | ⟨-, o, z, -⟩ := x1
    · omega
    · omega
  obtain ⟨ν1, hν⟩ : ∃ x, x = z_up (z_up (z_up (z_up (z_up ν 246 (21 * pt + i) (-1)) 245 (21 * pt + i) (ν 248 lv)) 250 lv (if ν 250 lv = 0 ∧ ν 251 lv = 0 then 0 else 1)) 251 lv 1) 249 lv i := ⟨_, rfl⟩
  have fq1 : FrQ pt ν ν1 := by
    rw [hν]
    exact ((((FrQ.rf.upA (by decide) (by omega)).upA (by decide) (by omega)).upL (by decide)).upL (by decide)).upL (by decide)
  have o0 : ∀ q j, q < 245 → ν1 q j = ν q j := fun q j h1 => by
    rw [hν, z_up_ne (by omega), z_up_ne (by omega), z_up_ne (by omega), z_up_ne (by omega), z_up_ne (by omega)]
  have o8 : ∀ j, ν1 248 j = ν 248 j := fun j => by
    rw [hν, z_up_ne (by omega), z_up_ne (by omega), z_up_ne (by omega), z_up_ne (by omega), z_up_ne (by omega)]
  have o1 : ∀ q j, 248 ≤ q → j ≠ lv → ν1 q j = ν q j := fun q j h1 h2 => by
    rw [hν, z_up_oj h2, z_up_oj h2, z_up_oj h2, z_up_ne (by omega), z_up_ne (by omega)]
  have o2 : ν1 249 lv = i ∧ ν1 250 lv = (if ν 250 lv = 0 ∧ ν 251 lv = 0 then 0 else 1) ∧ ν1 251 lv = 1 := by
    rw [hν]
    exact ⟨z_up_eq, (z_up_ne (by decide)).trans ((z_up_ne (by decide)).trans z_up_eq), (z_up_ne (by decide)).trans z_up_eq⟩
  have o5 : (∀ m, m ≠ i → ν1 245 (21 * pt + m) = ν 245 (21 * pt + m)) ∧ ν1 245 (21 * pt + i) = ν 248 lv := by
    rw [hν]
    refine ⟨fun m hm => ?_, ?_⟩
    · rw [z_up_ne (by omega), z_up_ne (by omega), z_up_ne (by omega), z_up_nj (by omega), z_up_ne (by omega)]
    · rw [z_up_ne (by omega), z_up_ne (by omega), z_up_ne (by omega), z_up_eq]
  have o6 : (∀ m, m ≠ i → ν1 246 (21 * pt + m) = ν 246 (21 * pt + m)) ∧ ν1 246 (21 * pt + i) = -1 := by
    rw [hν]
    refine ⟨fun m hm => ?_, ?_⟩
    · rw [z_up_ne (by omega), z_up_ne (by omega), z_up_ne (by omega), z_up_ne (by omega), z_up_nj (by omega)]
    · rw [z_up_ne (by omega), z_up_ne (by omega), z_up_ne (by omega), z_up_ne (by omega), z_up_eq]
  have o7 : ν1 247 pt = ν 247 pt := by
    rw [hν, z_up_ne (by omega), z_up_ne (by omega), z_up_ne (by omega), z_up_ne (by omega), z_up_ne (by omega)]
  have run : ∀ N, f_Mo_parse_71 (N + 1) 233 (pt : Int) (enI en) (n : Int) (lv : Int) (gr : Int) (i : Int) (SH L, ρ, ν) = if 0 ≤ ν 249 lv then f_Mo_parse_71 N 233 (pt : Int) (enI en) (n : Int) (lv : Int) (gr : Int) ((i + 1 : Nat) : Int) (SH L, ρ, z_up ν1 246 (21 * pt + (ν 249 lv).toNat) i) else f_Mo_parse_71 N 233 (pt : Int) (enI en) (n : Int) (lv : Int) (gr : Int) ((i + 1 : Nat) : Int) (SH L, ρ, z_up ν1 247 pt i) := by
    intro N
    rw [f_Mo_parse_71]
    show (if _ then _ else _) = _
    rw [if_neg (by omega), if_neg (by omega), zck_k s_233, Option.bind_some, a0, Option.bind_some]
    dsimp only
    rw [zgR_k s_233 (m_15 rm) (by decide), Option.bind_some, zw_of (x := 21 * (pt : Int)) (by omega) (by omega), zw_of (x := 21 * (pt : Int) + i) (by omega) (by omega), zsI_k s_246 (by omega) (by omega), Option.bind_some, show (21 * (pt : Int) + (i : Int)).toNat = 21 * pt + i by omega, if_neg (by omega), if_pos hc, zck_k s_233, Option.bind_some, m_note rm hpt (by omega) (by omega) (by rw [z_up_ne (by decide)]; exact x8) (by rw [z_up_ne (by decide)]; exact x7), Option.bind_some, zgR_k s_233 (m_18 rm) (by decide), Option.bind_some, zaI_k s_249 (by omega) (by omega), Option.bind_some, Int.toNat_natCast, Option.bind_some, zsI_k s_249 (by omega) (by omega), Option.bind_some, Int.toNat_natCast, z_up_ne (by decide), z_up_ne (by decide), z_up_ne (by decide), z_up_ne (by decide), z_up_ne (by decide), z_up_ne (by decide), z_up_ne (by decide), ← hν]
    by_cases g0 : 0 ≤ ν 249 lv
    · rw [if_pos g0, if_pos g0, zgR_k s_233 (m_15 rm) (by decide), Option.bind_some, zw_of (x := 21 * (pt : Int) + ν 249 lv) (by omega) (by omega), zsI_k s_246 (by omega) (by omega), Option.bind_some, show (21 * (pt : Int) + ν 249 lv).toNat = 21 * pt + (ν 249 lv).toNat by omega]
      unfold f_Mo_parse_218 f_Mo_parse_353
      rw [zw_of (by omega) (by omega), show (i : Int) + 1 = ((i + 1 : Nat) : Int) by omega]
    · rw [if_neg g0, if_neg g0, zgR_k s_233 (m_16 rm) (by decide), Option.bind_some, zsI_k s_247 (by omega) (by omega), Option.bind_some, Int.toNat_natCast]
      unfold f_Mo_parse_218 f_Mo_parse_353
      rw [zw_of (by omega) (by omega), show (i : Int) + 1 = ((i + 1 : Nat) : Int) by omega]
  by_cases g0 : 0 ≤ ν 249 lv
  · refine ⟨z_up ν1 246 (21 * pt + (ν 249 lv).toNat) i, fq1.upA (by decide) (by omega), fun N => by rw [run, if_pos g0], fun q j h1 => (z_up_ne (by omega)).trans (o0 q j h1), fun j => (z_up_ne (by omega)).trans (o8 j), fun q j h1 h2 => (z_up_ne (by omega)).trans (o1 q j h1 h2), ?_, fun m hm => (z_up_ne (by omega)).trans (o5.1 m hm), (z_up_ne (by omega)).trans o5.2, fun m h1 h2 => (z_up_nj (by omega)).trans (o6.1 m h1), (z_up_nj (by omega)).trans o6.2, fun m hm => ?_, fun z => by omega, fun _ => (z_up_ne (by omega)).trans o7⟩
    · rw [z_up_ne (by omega), z_up_ne (by omega), z_up_ne (by omega)]
      exact o2
    · rw [show (ν 249 lv).toNat = m by omega]
      exact z_up_eq
  · refine ⟨z_up ν1 247 pt i, fq1.upF, fun N => by rw [run, if_neg g0], fun q j h1 => (z_up_ne (by omega)).trans (o0 q j h1), fun j => (z_up_ne (by omega)).trans (o8 j), fun q j h1 h2 => (z_up_ne (by omega)).trans (o1 q j h1 h2), ?_, fun m hm => (z_up_ne (by omega)).trans (o5.1 m hm), (z_up_ne (by omega)).trans o5.2, fun m h1 h2 => (z_up_ne (by omega)).trans (o6.1 m h1), (z_up_ne (by omega)).trans o6.2, fun m hm => by omega, fun z => z_up_eq, fun z => by omega⟩
    rw [z_up_ne (by omega), z_up_ne (by omega), z_up_ne (by omega)]
    exact o2
theorem tu_bar (rc : Rc ρ) (rm : Rm ρ) (hp : ptS L p) (pr : ptR ρ p) (hp6 : 36 ≤ p) (hpt : pt < 22) (h : PHp p pt n en c μ ν g sc i lv gr E) (hi : i < n) (hc : c i = 124) : ∃ μ', f_Pr_readNext 3 p (SH L, ρ, μ) = some (SH L, ρ, μ') ∧ TRs L ρ p pt n en c μ ν i lv gr μ' := by
  have e0 := rn_0 (L := L) rc h hi
  rw [if_pos hc] at e0
  obtain ⟨ν', fq, run, n0, n8, n1, ⟨n2, n3, n4⟩, n5, n5', n6, n6', n6'', n7, n7'⟩ := m_bar (L := L) rm hpt h hi hc
  obtain ⟨⟨c1, c2, c3, c4⟩, ⟨d1, d2, d3, d4, d5⟩, ⟨p5, p6⟩, rp, lf, iv⟩ := id h
  obtain ⟨⟨q1, q2, q3, q4, q5⟩, ky, tg, -, -, lf0, -, -, zc⟩ := id iv
  have n20 := c1.2.1
  obtain ⟨x1, x2, x3, -, -, -, ⟨x7, x8⟩, -, -, -, ⟨x11, -⟩, -⟩ := id (lf0 lv (Nat.le_refl _))
  have lo0 : -1 ≤ ν 248 lv := by
    obtain ⟨-, z⟩ | ⟨-, o, z, -⟩ := x1
    · omega
    · omega
  obtain ⟨as, -, hE, -⟩ := (lf0 lv (Nat.le_refl _)).chn (by omega) rp
  obtain ⟨j, hj⟩ : ∃ j, (ν 249 lv + 1).toNat = j := ⟨_, rfl⟩
  obtain ⟨w1, w2, w3, w4, w5, w6⟩ := lf lv (Nat.le_refl _)
  rw [hj] at x3 x11 w2
  have hjl : (j : Int) = ν 249 lv + 1 := by omega
  obtain ⟨μ1, μ2, b1, b2, b3⟩ := e_endBr (L := L) rc hp pr hp6 (lv := lv) (a := cn g.K (4 * j)) (Z := cn g.K 84) (E := E lv) (μ := z_up μ 3 2 ((i + 1 : Nat) : Int)) (by omega) (cn_le2 (by omega)) (by omega) (by omega) ((z_up_nj (by decide)).trans d5) ((z_up_ne (by omega)).trans p5) ((z_up_ne (by decide)).trans w2) ((z_up_ne (by decide)).trans w3)
  rw [z_up_ne (by decide), z_up_ne (by decide), w5, w4] at b3
  obtain ⟨s1, s2, s3, s4, s5, s6⟩ := b1
  obtain ⟨t1, t2, t3, t4, t5, t6⟩ := b2
  have mi : ∀ q, q ≠ 3 → z_up μ 3 2 ((i + 1 : Nat) : Int) q = μ q := fun q hq => funext fun j => z_up_ne hq
  rw [mi _ (by omega)] at s4 s5 s6
  rw [s4] at t4
  rw [s5] at t5
  rw [s6] at t6
  obtain ⟨μ', hμ⟩ : ∃ x, x = z_up (z_up (z_up (z_up μ2 8 lv ((E lv + 1 : Nat) : Int)) 7 lv ((cn g.K 84 + 2 : Nat) : Int)) 10 lv (if ν 250 lv = 0 ∧ ν 251 lv = 0 then 0 else 1)) 9 lv 1 := ⟨_, rfl⟩
  rw [← hμ] at b3
  have k1 : ∀ q j, q < 3 ∨ 10 < q → μ' q j = μ2 q j := fun q j hq => by rw [hμ, z_up_ne (by omega), z_up_ne (by omega), z_up_ne (by omega), z_up_ne (by omega)]
  have m2 : ∀ q j, q < p ∨ p + 3 < q → μ2 q j = z_up μ 3 2 ((i + 1 : Nat) : Int) q j := fun q j hq => (t1 q j hq).trans (s1 q j hq)
  have k2 : ∀ j, μ' 3 j = z_up μ 3 2 ((i + 1 : Nat) : Int) 3 j := fun j => by rw [hμ, z_up_ne (by omega), z_up_ne (by omega), z_up_ne (by omega), z_up_ne (by omega), m2 3 j (by omega)]
  have k4 : ∀ j, μ' 4 j = μ 4 j := fun j => by rw [hμ, z_up_ne (by omega), z_up_ne (by omega), z_up_ne (by omega), z_up_ne (by omega), m2 4 j (by omega), z_up_ne (by omega)]
  have k5 : ∀ q j, q = 5 ∨ q = 6 → μ' q j = μ q j := fun q j hq => by rw [hμ, z_up_ne (by omega), z_up_ne (by omega), z_up_ne (by omega), z_up_ne (by omega), m2 q j (by omega), z_up_ne (by omega)]
  have k7 : ∀ q j, 5 ≤ q → q ≤ 10 → j ≠ lv → μ' q j = μ q j := fun q j h1 h2 hj => by rw [hμ, z_up_oj hj, z_up_oj hj, z_up_oj hj, z_up_oj hj, m2 q j (by omega), z_up_ne (by omega)]
  have k8 : μ' 7 lv = ((cn g.K 84 + 2 : Nat) : Int) ∧ μ' 8 lv = ((E lv + 1 : Nat) : Int) ∧ μ' 9 lv = 1 ∧ μ' 10 lv = (if ν 250 lv = 0 ∧ ν 251 lv = 0 then 0 else 1) := by
    rw [hμ]
    exact ⟨(z_up_ne (by decide)).trans ((z_up_ne (by decide)).trans z_up_eq), (z_up_ne (by decide)).trans ((z_up_ne (by decide)).trans ((z_up_ne (by decide)).trans z_up_eq)), z_up_eq, (z_up_ne (by decide)).trans z_up_eq⟩
  have nk : kad g.K (4 * j) (4 * i + 2) ≠ true := fun z => by
    rw [kad_o (by omega)] at z
    have := ky.1 _ z
    omega
  have ck : ∀ t, cn (gBr g i j).K t = cn g.K t + (if 4 * j < t then 1 else 0) + (if 4 * i + 2 < t then 1 else 0) := fun t => by
    show cn (kad (kad g.K (4 * j)) (4 * i + 2)) t = _
    rw [cn_kad nk, cn_kad x3]
  have c84 : cn (gBr g i j).K 84 = cn g.K 84 + 2 := by rw [ck, if_pos (by omega), if_pos (by omega)]
  have top : cn g.K (4 * (i + 1)) = cn g.K 84 := RepN.top rp (fun x z => by have := ky.1 x z; omega) (by omega)
  have mf : ∀ q, 10 < q → q < p ∨ p + 3 < q → μ' q = μ q := fun q h1 h2 => funext fun j => (k1 q j (Or.inr h1)).trans ((m2 q j h2).trans (z_up_ne (by omega)))
  rw [e0]
  refine ⟨μ', b3, fun q j h1 h2 => (k1 q j h1).trans ((m2 q j (by omega)).trans (z_up_ne (by omega))), Or.inl ⟨ν', gBr g i j, sc, i + 1, lv, gr, udn E lv (E lv + 1), by omega, fq, run, ⟨c1.of ((k2 1).trans (z_up_nj (by decide))) k4, fq.ta.trans c2, (fq.1 239 pt (by omega)).trans c3, c4⟩, ⟨(k2 2).trans z_up_eq, ((k2 3).trans (z_up_nj (by decide))).trans d2, ((k2 4).trans (z_up_nj (by decide))).trans d3, ((k2 5).trans (z_up_nj (by decide))).trans d4, ((k2 6).trans (z_up_nj (by decide))).trans d5⟩, ⟨?_, ?_⟩, ?_, fun l hl => ?_, ?_⟩⟩
  · rw [k1 p 5 (by omega), t3, c84]
  · rw [k1 p 6 (by omega), t2 6 (by decide), s2 6 (by decide), z_up_ne (by omega)]
    exact p6
  · have r := RepG.bar rp (i := i) (j := j) (by omega) (by omega) (fun x z => ky.1 x z) tg x3 rfl x11
    rw [c84, show μ' (p + 1) = μ2 (p + 1) from funext fun j => k1 _ j (by omega), show μ' (p + 2) = μ2 (p + 2) from funext fun j => k1 _ j (by omega), show μ' (p + 3) = μ2 (p + 3) from funext fun j => k1 _ j (by omega), t4, t5, t6]
    exact r
  · rw [n8 l]
    by_cases e : l = lv
    · subst e
      have e1 : cn (gBr g i j).K (4 * ((i : Int) + 1).toNat) = cn g.K 84 + 2 := by rw [ck, show ((i : Int) + 1).toNat = i + 1 by omega, top, if_pos (by omega), if_pos (by omega)]
      have e2 : cn (gBr g i j).K (4 * (ν 248 l + 1).toNat) = cn g.K (4 * (ν 248 l + 1).toNat) := by rw [ck, if_neg (by omega), if_neg (by omega), Nat.add_zero]
      rw [n2, n3, n4, k8.1, k8.2.1, k8.2.2.1, k8.2.2.2, e1, e2, k5 6 l (by omega), k5 5 l (by omega), udn_e, n0 244 _ (by decide)]
      exact ⟨w1, rfl, rfl, rfl, rfl, w6⟩
    · obtain ⟨w1, w2, w3, w4, w5, w6⟩ := lf l hl
      obtain ⟨y1, y2, -⟩ := id (lf0 l hl)
      have y3 := iv.lvLt2 (show l < lv by omega) (Nat.le_refl _)
      rw [n1 249 l (by decide) e, n1 250 l (by decide) e, n1 251 l (by decide) e, k7 6 l (by decide) (by decide) e, k7 7 l (by decide) (by decide) e, k7 8 l (by decide) (by decide) e, k7 9 l (by decide) (by decide) e, k7 10 l (by decide) (by decide) e, k7 5 l (by decide) (by decide) e, ck, ck, if_neg (by omega), if_neg (by omega), if_neg (by omega), if_neg (by omega), Nat.add_zero, Nat.add_zero, Nat.add_zero, Nat.add_zero, udn_n e, n0 244 _ (by decide)]
      exact ⟨w1, w2, w3, w4, w5, w6⟩
  · rw [mf (p + 4) (by omega) (by omega), mf (p + 5) (by omega) (by omega)]
    refine st_bar iv (show i < (ν 239 pt).toNat by omega) (by rw [← hc, ← c2]) hj ⟨fq.ta, rfl, congrArg Int.toNat (fq.1 239 pt (by omega))⟩ ⟨n7, n7'⟩ n6 ⟨n6', n6''⟩ (fun m => ⟨n0 _ _ (by decide), n0 _ _ (by decide), n0 _ _ (by decide), n0 _ _ (by decide)⟩) ⟨n5', n5⟩ (fun l hl => ⟨n1 _ _ (by decide) (by omega), n1 _ _ (by decide) (by omega), n1 _ _ (by decide) (by omega), udn_n (by omega)⟩) (fun l _ => n8 l) ⟨n2, n4, n3, udn_e⟩
end Trb
