/-! One turn: a group closes -/
section Trc
variable {L : Nat} {ρ : Nat → Nat → Nat} {p pt n sc i lv gr : Nat} {en : Bool} {c : Nat → Int} {μ ν : Nat → Nat → Int} {g : PG} {E : Nat → Nat}
theorem tu_close0 (rc : Rc ρ) (rm : Rm ρ) (hp6 : 36 ≤ p) (hpt : pt < 22) (h : PHp p pt n en c μ ν g sc i 0 gr E) (hi : i < n) (hc : c i = 41) : ∃ μ', f_Pr_readNext 3 p (SH L, ρ, μ) = some (SH L, ρ, μ') ∧ TRs L ρ p pt n en c μ ν i 0 gr μ' := by
  have e0 := rn_0 (L := L) rc h hi
  have a0 := mt_00 (L := L) rm hpt h hi
  rw [if_neg (by omega), if_neg (by omega), if_pos hc] at e0
  obtain ⟨⟨c1, c2, c3, c4⟩, ⟨d1, d2, d3, d4, d5⟩, ⟨p5, p6⟩, rp, lf, iv⟩ := id h
  obtain ⟨⟨q1, q2, q3, q4, q5⟩, ky, tg, -, -, lf0, -, -, zc⟩ := id iv
  have n20 := c1.2.1
  rw [e0]
  unfold f_Pr_closeGroup
  rw [zgI_k s_3, Option.bind_some, z_up_nj (by decide), d5, if_pos (show ((0 : Nat) : Int) = 0 from rfl), zpZ_k s_3 (Or.inr rfl), Option.bind_some]
  refine ⟨_, rfl, (FrP.rf.up (Or.inl (by decide))).up (Or.inl (by decide)), Or.inr ⟨?_, z_up ν 246 (21 * pt + i) (-1), FrQ.rf.upA (by decide) (by omega), fun N => ?_⟩⟩
  · refine h.bad (l := 0) (s0 := cn g.K 84) (Nat.le_refl _) (cn_le2 ?_) z_up_eq ?_ ⟨cn g.K 84, ?_, by omega, Nat.le_refl _⟩ ?_ ?_ (fun j _ => ?_)
    · have := (lf0 0 (Nat.le_refl _)).2.1
      omega
    · rw [z_up_nj (by decide), z_up_nj (by decide)]; exact d5
    · rw [z_up_ne (by omega), z_up_ne (by omega)]; exact p5
    · rw [z_up_ne (by omega), z_up_ne (by omega)]
    · rw [z_up_ne (by omega), z_up_ne (by omega)]
    · rw [z_up_ne (by omega), z_up_ne (by omega)]
  · rw [f_Mo_parse_71]
    show (if _ then _ else _) = _
    rw [if_neg (by omega), if_neg (by omega), zck_k s_233, Option.bind_some, a0, Option.bind_some]
    dsimp only
    rw [zgR_k s_233 (m_15 rm) (by decide), Option.bind_some, zw_of (x := 21 * (pt : Int)) (by omega) (by omega), zw_of (x := 21 * (pt : Int) + i) (by omega) (by omega), zsI_k s_246 (by omega) (by omega), Option.bind_some, show (21 * (pt : Int) + (i : Int)).toNat = 21 * pt + i by omega, if_neg (by omega), if_neg (by omega), if_pos hc, if_pos (show ((0 : Nat) : Int) = 0 from rfl)]
/-- the model's turn -/
theorem m_close (rm : Rm ρ) (hpt : pt < 22) {lw o : Nat} (h : PHp p pt n en c μ ν g sc i (lw + 1) gr E) (hi : i < n) (hc : c i = 41) (ho : ν 248 (lw + 1) = o) (hoi : o < i) (hco : c o = 40) {em : Int} (hem : em = if ν 250 (lw + 1) = 0 ∧ ν 251 (lw + 1) = 0 then 0 else 1) : ∃ ν1, FrQ pt ν ν1 ∧ (∀ N, f_Mo_parse_71 (N + 1) 233 (pt : Int) (enI en) (n : Int) ((lw + 1 : Nat) : Int) (gr : Int) (i : Int) (SH L, ρ, ν) = if em ≠ 0 ∧ (qN c (i + 1) = 1 ∨ qN c (i + 1) = 2) then f_Mo_parse_71 N 233 (pt : Int) (enI en) (n : Int) (lw : Int) (gr : Int) (-1) (SH L, ρ, ν1) else f_Mo_parse_71 N 233 (pt : Int) (enI en) (n : Int) (lw : Int) (gr : Int) (qE c (i + 1) : Int) (SH L, ρ, mqU ν1 pt o (i + 1) lw (if qL c (i + 1) = 0 then qN c (i + 1) else qN c (i + 1) + 4) (qE c (i + 1)) (if ν 251 lw = 0 then 0 else if em ≠ 0 ∨ qN c (i + 1) = 1 ∨ qN c (i + 1) = 3 then 1 else 0))) ∧
    (∀ q j, q < 245 ∨ 247 ≤ q → q ≤ 249 → ν1 q j = ν q j) ∧ (∀ q j, 248 ≤ q → j ≠ lw + 1 → ν1 q j = ν q j) ∧ (∀ q m, q = 245 ∨ q = 246 → m ≠ i → ν1 q (21 * pt + m) = ν q (21 * pt + m)) ∧ ν1 245 (21 * pt + i) = o := by
  have a0 := mt_00 (L := L) rm hpt h hi
  obtain ⟨⟨c1, c2, c3, c4⟩, ⟨d1, d2, d3, d4, d5⟩, ⟨p5, p6⟩, rp, lf, iv⟩ := id h
  obtain ⟨⟨q1, q2, q3, q4, q5⟩, ky, tg, -, -, lf0, -, -, zc⟩ := id iv
  have n20 := c1.2.1
  obtain ⟨-, -, -, -, -, -, ⟨x7, x8⟩, -⟩ := id (lf0 (lw + 1) (Nat.le_refl _))
  obtain ⟨-, -, -, -, -, -, ⟨y7, -⟩, -⟩ := id (lf0 lw (by omega))
  obtain ⟨ν1, hν⟩ : ∃ x, x = z_up (z_up (z_up (z_up ν 246 (21 * pt + i) (-1)) 245 (21 * pt + i) (ν 248 (lw + 1))) 250 (lw + 1) (if ν 250 (lw + 1) = 0 ∧ ν 251 (lw + 1) = 0 then 0 else 1)) 251 (lw + 1) 1 := ⟨_, rfl⟩
  have fq : FrQ pt ν ν1 := by
    rw [hν]
    exact (((FrQ.rf.upA (by decide) (by omega)).upA (by decide) (by omega)).upL (by decide)).upL (by decide)
  have o0 : ∀ q j, q < 245 ∨ 247 ≤ q → q ≤ 249 → ν1 q j = ν q j := fun q j h1 h2 => by
    rw [hν, z_up_ne (by omega), z_up_ne (by omega), z_up_ne (by omega), z_up_ne (by omega)]
  have o1 : ∀ q j, 248 ≤ q → j ≠ lw + 1 → ν1 q j = ν q j := fun q j h1 h2 => by
    rw [hν, z_up_oj h2, z_up_oj h2, z_up_ne (by omega), z_up_ne (by omega)]
  have ta : tA ν1 pt = c := fq.ta.trans c2
  have n9 : ν1 239 pt = n := (fq.1 239 pt (by omega)).trans c3
  have e50 : ν1 250 (lw + 1) = em := by rw [hν, z_up_ne (by decide), z_up_eq, hem]
  have r0 : isR c o = 0 := if_neg (fun z => by omega)
  refine ⟨ν1, fq, fun N => ?_, o0, o1, fun q m hq hm => ?_, ?_⟩
  · have mq := m_quant (L := L) (pt := pt) (a := o) (b := i + 1) (lv := lw) (n := n) rm hpt (by omega) (by omega) (by omega) (ν := ν1) n9 n20 (em := em) (by rw [o1 251 lw (by decide) (by omega)]; exact y7)
    rw [ta, o1 251 lw (by decide) (by omega)] at mq
    rw [f_Mo_parse_71]
    show (if _ then _ else _) = _
    rw [if_neg (by omega), if_neg (by omega), zck_k s_233, Option.bind_some, a0, Option.bind_some]
    dsimp only
    rw [zgR_k s_233 (m_15 rm) (by decide), Option.bind_some, zw_of (x := 21 * (pt : Int)) (by omega) (by omega), zw_of (x := 21 * (pt : Int) + i) (by omega) (by omega), zsI_k s_246 (by omega) (by omega), Option.bind_some, show (21 * (pt : Int) + (i : Int)).toNat = 21 * pt + i by omega, if_neg (by omega), if_neg (by omega), if_pos hc, if_neg (by omega), zck_k s_233, Option.bind_some, m_note rm hpt (by omega) (by omega) (by rw [z_up_ne (by decide)]; exact x8) (by rw [z_up_ne (by decide)]; exact x7), Option.bind_some, z_up_ne (by decide), z_up_ne (by decide), z_up_ne (by decide), ← hν, zgR_k s_233 (m_19 rm) (by decide), Option.bind_some, zaI_k s_250 (by omega) (by omega), Option.bind_some, Int.toNat_natCast, e50, zgR_k s_233 (m_17 rm) (by decide), Option.bind_some, zaI_k s_248 (by omega) (by omega), Option.bind_some, Int.toNat_natCast, o0 248 _ (by omega) (by omega), ho, zck_k s_233, Option.bind_some, zw_of (x := (i : Int) + 1) (by omega) (by omega), show (i : Int) + 1 = ((i + 1 : Nat) : Int) by omega, zw_of (x := ((lw + 1 : Nat) : Int) + (-1)) (by omega) (by omega), show ((lw + 1 : Nat) : Int) + (-1) = (lw : Int) by omega, mq]
    unfold f_Mo_parse_353
    by_cases g1 : em ≠ 0 ∧ (qN c (i + 1) = 1 ∨ qN c (i + 1) = 2)
    · rw [if_pos (Or.inl g1), if_pos g1, Option.bind_some]
    · rw [if_neg (show ¬ ((em ≠ 0 ∧ (qN c (i + 1) = 1 ∨ qN c (i + 1) = 2)) ∨ (isR c o = 1 ∧ 0 < qN c (i + 1))) by omega), if_neg g1, Option.bind_some]
  · have hm' : 21 * pt + m ≠ 21 * pt + i := by omega
    rw [hν, z_up_ne (by omega), z_up_ne (by omega), z_up_oj hm', z_up_oj hm']
  · rw [hν, z_up_ne (by omega), z_up_ne (by omega), z_up_eq, ho]
end Trc
