/-! One turn: a group opens -/
theorem z_up_oj {g : Nat → Nat → Int} {c c' j j' : Nat} {v : Int} (h : j ≠ j') : z_up g c' j' v c j = g c j := if_neg fun z => h z.2
section Tro2
variable {L : Nat} {ρ : Nat → Nat → Nat} {p pt n sc i lv gr : Nat} {en : Bool} {c : Nat → Int} {μ ν : Nat → Nat → Int} {g : PG} {E : Nat → Nat}
theorem tu_open (rc : Rc ρ) (rm : Rm ρ) (hp : ptS L p) (pr : ptR ρ p) (hp6 : 36 ≤ p) (hpt : pt < 22) (h : PHp p pt n en c μ ν g sc i lv gr E) (hi : i < n) (hc : c i = 40) : ∃ μ', f_Pr_readNext 3 p (SH L, ρ, μ) = some (SH L, ρ, μ') ∧ TRs L ρ p pt n en c μ ν i lv gr μ' := by
  have e0 := rn_0 (L := L) rc h hi
  have a0 := mt_00 (L := L) rm hpt h hi
  rw [if_neg (by omega), if_pos hc] at e0
  obtain ⟨⟨c1, c2, c3, c4⟩, ⟨d1, d2, d3, d4, d5⟩, ⟨p5, p6⟩, rp, lf, iv⟩ := id h
  obtain ⟨⟨q1, q2, q3, q4, q5⟩, ky, tg, -, -, lf0, -, -, zc⟩ := id iv
  have n20 := c1.2.1
  rw [e0]
  by_cases g3 : gr = 3
  · unfold f_Pr_openGroup
    rw [zgI_k s_3, Option.bind_some, z_up_nj (by decide), d4, if_pos (by omega), zpZ_k s_3 (Or.inr rfl), Option.bind_some]
    refine ⟨_, rfl, (FrP.rf.up (Or.inl (by decide))).up (Or.inl (by decide)), Or.inr ⟨?_, z_up ν 246 (21 * pt + i) (-1), FrQ.rf.upA (by decide) (by omega), fun N => ?_⟩⟩
    · refine h.bad (l := lv) (s0 := cn g.K 84) (Nat.le_refl _) (cn_le2 ?_) z_up_eq ?_ ⟨cn g.K 84, ?_, by omega, Nat.le_refl _⟩ ?_ ?_ (fun j _ => ?_)
      · have := (lf0 lv (Nat.le_refl _)).2.1
        omega
      · rw [z_up_nj (by decide), z_up_nj (by decide)]; exact d5
      · rw [z_up_ne (by omega), z_up_ne (by omega)]; exact p5
      · rw [z_up_ne (by omega), z_up_ne (by omega)]
      · rw [z_up_ne (by omega), z_up_ne (by omega)]
      · rw [z_up_ne (by omega), z_up_ne (by omega)]
    · rw [f_Mo_parse_71]
      show (if _ then _ else _) = _
      rw [if_neg (by omega), if_neg (by omega), zck_k s_233, Option.bind_some, a0, Option.bind_some]
      dsimp only
      rw [zgR_k s_233 (m_15 rm) (by decide), Option.bind_some, zw_of (x := 21 * (pt : Int)) (by omega) (by omega), zw_of (x := 21 * (pt : Int) + i) (by omega) (by omega), zsI_k s_246 (by omega) (by omega), Option.bind_some, show (21 * (pt : Int) + (i : Int)).toNat = 21 * pt + i by omega, if_pos hc, zw_of (x := (gr : Int) + 1) (by omega) (by omega), if_neg (by omega)]
  · have gr3 : gr < 3 := by omega
    obtain ⟨μ1, i1, i2⟩ := e_append (L := L) (ρ := ρ) hp pr (Z := cn g.K 84) (op := 8) (f := 2 * (gr : Int)) (μ := z_up μ 3 2 ((i + 1 : Nat) : Int)) (by omega) ((z_up_ne (by omega)).trans p5)
    obtain ⟨v1, v2, v3, v4, v5, v6⟩ := i2
    have m1 : ∀ q, q ≠ 3 → q < p ∨ p + 3 < q → μ1 q = μ q := fun q h1 h2 => funext fun j => (v1 q j h2).trans (z_up_ne h1)
    have m3 : ∀ j, j ≠ 2 → μ1 3 j = μ 3 j := fun j hj => (v1 3 j (by omega)).trans (z_up_nj hj)
    have m32 : μ1 3 2 = ((i + 1 : Nat) : Int) := (v1 3 2 (by omega)).trans z_up_eq
    have mi : ∀ q, q ≠ 3 → z_up μ 3 2 ((i + 1 : Nat) : Int) q = μ q := fun q hq => funext fun j => z_up_ne hq
    rw [mi _ (by omega)] at v4 v5 v6
    have key : ∃ μ', f_Pr_openGroup 3 p (SH L, ρ, z_up μ 3 2 ((i + 1 : Nat) : Int)) = some (SH L, ρ, μ') ∧ (∀ q j, q < 3 ∨ 10 < q → μ' q j = μ1 q j) ∧ (∀ j, j ≠ 2 → j ≠ 5 → j ≠ 6 → μ' 3 j = μ 3 j) ∧ (μ' 3 2 = ((i + 1 : Nat) : Int) ∧ μ' 3 5 = ((gr + 1 : Nat) : Int) ∧ μ' 3 6 = ((lv + 1 : Nat) : Int)) ∧ (∀ j, μ' 4 j = μ 4 j) ∧ (∀ q j, 5 ≤ q → q ≤ 10 → j ≠ lv + 1 → μ' q j = μ q j) ∧ (μ' 5 (lv + 1) = (gr : Int) + 1 ∧ μ' 6 (lv + 1) = ((cn g.K 84 + 1 : Nat) : Int) ∧ μ' 7 (lv + 1) = ((cn g.K 84 + 1 : Nat) : Int) ∧ μ' 8 (lv + 1) = 0 ∧ μ' 9 (lv + 1) = 1 ∧ μ' 10 (lv + 1) = 0) := by
      unfold f_Pr_openGroup
      rw [zgI_k s_3, Option.bind_some, z_up_nj (by decide), d4, if_neg (by omega), Option.bind_some, zck_k hp.1, Option.bind_some, zw_of (x := 2 * (gr : Int)) (by omega) (by omega), i1, Option.bind_some, zgI_k s_3, Option.bind_some, m3 5 (by decide), d4, zw_of (x := (gr : Int) + 1) (by omega) (by omega), zpI_k s_3, Option.bind_some, zgI_k s_3, Option.bind_some, z_up_nj (by decide), m3 6 (by decide), d5, zw_of (x := (lv : Int) + 1) (by omega) (by omega), zpI_k s_3, Option.bind_some, zgR_k s_3 rc.2.1.2.1 (by decide), Option.bind_some, zgI_k s_3, Option.bind_some, z_up_eq, zgI_k s_3, Option.bind_some, z_up_nj (by decide), z_up_eq, zsI_k s_5 (by omega) (by omega), Option.bind_some, zgI_k hp.1, Option.bind_some, z_up_ne (by omega), z_up_ne (by omega), z_up_ne (by omega), v3, zck_k s_3, Option.bind_some, e_openLv rc (lv := lv + 1) (by omega) (by rw [z_up_ne (by decide), z_up_eq]; omega), Option.bind_some, show ((lv : Int) + 1).toNat = lv + 1 by omega]
      refine ⟨_, rfl, fun q j hq => ?_, fun j j2 j5 j6 => ?_, ⟨?_, ?_, ?_⟩, fun j => ?_, fun q j h1 h2 hj => ?_, ⟨?_, ?_, ?_, ?_, ?_, ?_⟩⟩
      · rw [z_up_ne (by omega), z_up_ne (by omega), z_up_ne (by omega), z_up_ne (by omega), z_up_ne (by omega), z_up_ne (by omega), z_up_ne (by omega), z_up_ne (by omega)]
      · rw [z_up_ne (by omega), z_up_ne (by omega), z_up_ne (by omega), z_up_ne (by omega), z_up_ne (by omega), z_up_ne (by omega), z_up_nj j6, z_up_nj j5]
        exact m3 j j2
      · rw [z_up_ne (by omega), z_up_ne (by omega), z_up_ne (by omega), z_up_ne (by omega), z_up_ne (by omega), z_up_ne (by omega), z_up_nj (by decide), z_up_nj (by decide)]
        exact m32
      · rw [z_up_ne (by omega), z_up_ne (by omega), z_up_ne (by omega), z_up_ne (by omega), z_up_ne (by omega), z_up_ne (by omega), z_up_nj (by decide), z_up_eq]
        omega
      · rw [z_up_ne (by omega), z_up_ne (by omega), z_up_ne (by omega), z_up_ne (by omega), z_up_ne (by omega), z_up_ne (by omega), z_up_eq]
        omega
      · rw [z_up_ne (by omega), z_up_ne (by omega), z_up_ne (by omega), z_up_ne (by omega), z_up_ne (by omega), z_up_ne (by omega), z_up_ne (by omega), z_up_ne (by omega), m1 4 (by decide) (by omega)]
      · rw [z_up_oj hj, z_up_oj hj, z_up_oj hj, z_up_oj hj, z_up_oj hj, z_up_oj hj, z_up_ne (by omega), z_up_ne (by omega), m1 q (by omega) (by omega)]
      · rw [z_up_ne (by decide), z_up_ne (by decide), z_up_ne (by decide), z_up_ne (by decide), z_up_ne (by decide), z_up_eq]
      · rw [z_up_ne (by decide), z_up_ne (by decide), z_up_ne (by decide), z_up_ne (by decide), z_up_eq]
      · rw [z_up_ne (by decide), z_up_ne (by decide), z_up_ne (by decide), z_up_eq]
      · rw [z_up_ne (by decide), z_up_ne (by decide), z_up_eq]
      · rw [z_up_ne (by decide), z_up_eq]
      · exact z_up_eq
    obtain ⟨μ', k0, k1, k2, ⟨k3, k4, k5⟩, k6, k7, k8, k9, k10, k11, k12, k13⟩ := key
    obtain ⟨ν', hν⟩ : ∃ x, x = z_up (z_up (z_up (z_up (z_up (z_up ν 246 (21 * pt + i) (-1)) 244 (21 * pt + i) gr) 248 (lv + 1) i) 249 (lv + 1) i) 250 (lv + 1) 0) 251 (lv + 1) 1 := ⟨_, rfl⟩
    have fq : FrQ pt ν ν' := by
      rw [hν]
      exact (((((FrQ.rf.upA (by decide) (by omega)).upA (by decide) (by omega)).upL (by decide)).upL (by decide)).upL (by decide)).upL (by decide)
    have n0 : ∀ q j, q ≠ 244 → q ≠ 246 → q < 248 → ν' q j = ν q j := fun q j h1 h2 h3 => by
      rw [hν, z_up_ne (by omega), z_up_ne (by omega), z_up_ne (by omega), z_up_ne (by omega), z_up_ne (by omega), z_up_ne (by omega)]
    have n1 : ∀ q j, 248 ≤ q → j ≠ lv + 1 → ν' q j = ν q j := fun q j h1 h2 => by
      rw [hν, z_up_oj h2, z_up_oj h2, z_up_oj h2, z_up_oj h2, z_up_ne (by omega), z_up_ne (by omega)]
    have n2 : ν' 248 (lv + 1) = i ∧ ν' 249 (lv + 1) = i ∧ ν' 250 (lv + 1) = 0 ∧ ν' 251 (lv + 1) = 1 := by
      rw [hν]
      exact ⟨(z_up_ne (by decide)).trans ((z_up_ne (by decide)).trans ((z_up_ne (by decide)).trans z_up_eq)), (z_up_ne (by decide)).trans ((z_up_ne (by decide)).trans z_up_eq), (z_up_ne (by decide)).trans z_up_eq, z_up_eq⟩
    have n4 : ∀ m, m ≠ i → ν' 244 (21 * pt + m) = ν 244 (21 * pt + m) ∧ ν' 246 (21 * pt + m) = ν 246 (21 * pt + m) := fun m hm => by
      rw [hν]
      exact ⟨by rw [z_up_ne (by omega), z_up_ne (by omega), z_up_ne (by omega), z_up_ne (by omega), z_up_nj (by omega), z_up_ne (by omega)], by rw [z_up_ne (by omega), z_up_ne (by omega), z_up_ne (by omega), z_up_ne (by omega), z_up_ne (by omega), z_up_nj (by omega)]⟩
    have n5 : ν' 244 (21 * pt + i) = gr ∧ ν' 246 (21 * pt + i) = -1 := by
      rw [hν]
      exact ⟨by rw [z_up_ne (by omega), z_up_ne (by omega), z_up_ne (by omega), z_up_ne (by omega), z_up_eq], by rw [z_up_ne (by omega), z_up_ne (by omega), z_up_ne (by omega), z_up_ne (by omega), z_up_ne (by omega), z_up_eq]⟩
    have nk : g.K (4 * i + 2) ≠ true := fun z => by have := ky.1 _ z; omega
    have ck : ∀ t, cn (gOp g i gr).K t = cn g.K t + (if 4 * i + 2 < t then 1 else 0) := fun t => cn_kad nk t
    have top : cn g.K (4 * (i + 1)) = cn g.K 84 := RepN.top rp (fun x z => by have := ky.1 x z; omega) (by omega)
    have mf : ∀ q, 10 < q → q < p ∨ p + 3 < q → μ' q = μ q := fun q h1 h2 => funext fun j => (k1 q j (Or.inr h1)).trans (congrFun (m1 q (by omega) h2) j)
    refine ⟨μ', k0, fun q j h1 h2 => (k1 q j h1).trans ((v1 q j (by omega)).trans (z_up_ne (by omega))), Or.inl ⟨ν', gOp g i gr, sc, i + 1, lv + 1, gr + 1, udn E (lv + 1) 0, by omega, fq, fun N => ?_, ⟨c1.of (k2 1 (by decide) (by decide) (by decide)) k6, fq.ta.trans c2, (fq.1 239 pt (by omega)).trans c3, c4⟩, ⟨k3, (k2 3 (by decide) (by decide) (by decide)).trans d2, (k2 4 (by decide) (by decide) (by decide)).trans d3, k4, k5⟩, ⟨?_, ?_⟩, ?_, fun l hl => ?_, ?_⟩⟩
    · rw [f_Mo_parse_71]
      show (if _ then _ else _) = _
      rw [hν]
      rw [if_neg (by omega), if_neg (by omega), zck_k s_233, Option.bind_some, a0, Option.bind_some]
      dsimp only
      rw [zgR_k s_233 (m_15 rm) (by decide), Option.bind_some, zw_of (x := 21 * (pt : Int)) (by omega) (by omega), zw_of (x := 21 * (pt : Int) + i) (by omega) (by omega), zsI_k s_246 (by omega) (by omega), Option.bind_some, show (21 * (pt : Int) + (i : Int)).toNat = 21 * pt + i by omega, if_pos hc, zw_of (x := (gr : Int) + 1) (by omega) (by omega), if_pos (by omega), zgR_k s_233 (m_13 rm) (by decide), Option.bind_some, zw_of (x := (gr : Int) + 1 - 1) (by omega) (by omega), zsI_k s_244 (by omega) (by omega), Option.bind_some, show (21 * (pt : Int) + (i : Int)).toNat = 21 * pt + i by omega, zck_k s_233, Option.bind_some, zw_of (x := (lv : Int) + 1) (by omega) (by omega), show (lv : Int) + 1 = ((lv + 1 : Nat) : Int) by omega, m_openLv rm (by omega), Option.bind_some, zw_of (x := (i : Int) + 1) (by omega) (by omega), show (gr : Int) + 1 - 1 = gr by omega, show (gr : Int) + 1 = ((gr + 1 : Nat) : Int) by omega, show (i : Int) + 1 = ((i + 1 : Nat) : Int) by omega]
      rfl
    · rw [k1 p 5 (by omega), v3, ck, if_pos (by omega)]
    · rw [k1 p 6 (by omega), v2 6 (by decide), z_up_ne (by omega)]
      exact p6
    · have r := RepN.app rp (y := 4 * i + 2) (fun x z => by have := ky.1 x z; omega) (by omega) (fun x z => by
        obtain ⟨w1, w2⟩ := tg x z
        exact ⟨fun u => by have := w1 u; omega, fun u => by have := w2 u; omega⟩) (op := 8) (f := 2 * (gr : Int)) (by decide) (by decide)
      rw [ck, if_pos (by omega), show μ' (p + 1) = insA (μ (p + 1)) (cn g.K 84) (cn g.K 84) 8 from (funext fun j => k1 _ j (by omega)).trans v4, show μ' (p + 2) = insA (μ (p + 2)) (cn g.K 84) (cn g.K 84) (2 * (gr : Int)) from (funext fun j => k1 _ j (by omega)).trans v5, show μ' (p + 3) = insA (μ (p + 3)) (cn g.K 84) (cn g.K 84) 0 from (funext fun j => k1 _ j (by omega)).trans v6]
      exact r
    · by_cases e : l = lv + 1
      · subst e
        rw [n2.1, n2.2.1, n2.2.2.1, n2.2.2.2, k9, k10, k11, k12, k13, k8]
        have e1 : cn (gOp g i gr).K (4 * ((i : Int) + 1).toNat) = cn g.K 84 + 1 := by rw [ck, show ((i : Int) + 1).toNat = i + 1 by omega, top, if_pos (by omega)]
        rw [e1, Int.toNat_natCast, n5.1]
        exact ⟨rfl, rfl, by rw [udn_e]; rfl, rfl, rfl, fun _ => rfl⟩
      · obtain ⟨w1, w2, w3, w4, w5, w6⟩ := lf l (by omega)
        obtain ⟨x1, x2, -⟩ := id (lf0 l (by omega))
        have x3 : (ν 248 l + 1).toNat ≤ i := by omega
        rw [n1 248 l (by decide) e, n1 249 l (by decide) e, n1 250 l (by decide) e, n1 251 l (by decide) e, k7 6 l (by decide) (by decide) e, k7 7 l (by decide) (by decide) e, k7 8 l (by decide) (by decide) e, k7 9 l (by decide) (by decide) e, k7 10 l (by decide) (by decide) e, k7 5 l (by decide) (by decide) e, ck, ck, if_neg (by omega), if_neg (by omega), Nat.add_zero, Nat.add_zero, udn_n e]
        refine ⟨w1, w2, w3, w4, w5, fun h1 => ?_⟩
        rw [(n4 _ (by omega)).1]
        exact w6 h1
    · rw [mf (p + 4) (by omega) (by omega), mf (p + 5) (by omega) (by omega)]
      refine st_open iv (show i < (ν 239 pt).toNat by omega) (by rw [← hc, ← c2]) gr3 ⟨fq.ta, rfl, congrArg Int.toNat (fq.1 239 pt (by omega)), n0 247 pt (by decide) (by decide) (by decide)⟩ (fun m hm => n4 m hm) n5 (fun m => ⟨n0 _ _ (by decide) (by decide) (by decide), n0 _ _ (by decide) (by decide) (by decide), n0 _ _ (by decide) (by decide) (by decide), n0 _ _ (by decide) (by decide) (by decide)⟩) (fun l hl => ⟨n1 _ _ (by decide) (by omega), n1 _ _ (by decide) (by omega), n1 _ _ (by decide) (by omega), n1 _ _ (by decide) (by omega), udn_n (by omega)⟩) ⟨n2.1, n2.2.1, n2.2.2.2, n2.2.2.1, udn_e⟩
end Tro2
