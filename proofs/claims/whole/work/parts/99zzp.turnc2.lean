/-! One turn: a group closes, both -/
section Trc2
variable {L : Nat} {ρ : Nat → Nat → Nat} {p pt n sc i lv gr lw : Nat} {en : Bool} {c : Nat → Int} {μ ν : Nat → Nat → Int} {g : PG} {E : Nat → Nat}
theorem tu_close (rc : Rc ρ) (rm : Rm ρ) (hp : ptS L p) (pr : ptR ρ p) (hp6 : 36 ≤ p) (hpt : pt < 22) (h : PHp p pt n en c μ ν g sc i (lw + 1) gr E) (hi : i < n) (hc : c i = 41) : ∃ μ', f_Pr_readNext 3 p (SH L, ρ, μ) = some (SH L, ρ, μ') ∧ TRs L ρ p pt n en c μ ν i (lw + 1) gr μ' := by
  have e0 := rn_0 (L := L) rc h hi
  rw [if_neg (by omega), if_neg (by omega), if_pos hc] at e0
  obtain ⟨⟨c1, c2, c3, c4⟩, ⟨d1, d2, d3, d4, d5⟩, ⟨p5, p6⟩, rp, lf, iv⟩ := id h
  obtain ⟨⟨q1, q2, q3, q4, q5⟩, ky, tg, tk, -, lf0, -, -, zc⟩ := id iv
  have n20 := c1.2.1
  have LV := lf0 (lw + 1) (Nat.le_refl _)
  obtain ⟨x1, x2, -, -, -, -, ⟨x7, x8⟩, -, -, -, ⟨-, x12⟩, -⟩ := id LV
  obtain ⟨o, ho, hoi, how, hoc⟩ : ∃ o : Nat, ν 248 (lw + 1) = o ∧ o < i ∧ g.W o = 1 ∧ tA ν pt o = 40 := by
    obtain ⟨z, -⟩ | ⟨-, z⟩ := x1
    · omega
    · exact z
  rw [c2] at hoc
  obtain ⟨xn, xK⟩ := x12 o ho
  obtain ⟨em, hem⟩ : ∃ x : Int, x = (if ν 250 (lw + 1) = 0 ∧ ν 251 (lw + 1) = 0 then 0 else 1) := ⟨_, rfl⟩
  obtain ⟨ν1, fq, run, n0, n1, n2, n3⟩ := m_close (L := L) rm hpt h hi hc ho hoi hoc hem
  -- the group's instruction
  obtain ⟨t1, -, -, t4⟩ := tk o hoi how
  obtain ⟨ga, hga, ga3, ko8⟩ : ∃ a : Nat, ν 244 (21 * pt + o) = a ∧ a < 3 ∧ g.ko (4 * o + 2) = 8 := by
    have oc' : (txOf ν pt en).c o = 40 := by show tA ν pt o = 40; rw [c2]; exact hoc
    obtain ⟨z, -⟩ | ⟨z, -⟩ | ⟨-, z, -, ⟨a, a1, a2, -⟩, -⟩ | ⟨-, -, z, -⟩ := t4
    · omega
    · omega
    · exact ⟨a, a1, a2, z⟩
    · exact absurd oc' z
  have co : cn g.K (4 * (o + 1)) = cn g.K (4 * o + 2) + 1 := by
    rw [show 4 * (o + 1) = 4 * o + 2 + 1 + 1 by omega, cn_f (ky.2.1 o), cn_t t1]
  have sZ : cn g.K (4 * o + 2) + 1 ≤ cn g.K 84 := by rw [← co]; exact cn_le2 (by omega)
  have nk : g.K (4 * i + 2) ≠ true := fun z => by have := ky.1 _ z; omega
  have mi : ∀ q, q ≠ 3 → z_up μ 3 2 ((i + 1 : Nat) : Int) q = μ q := fun q hq => funext fun j => z_up_ne hq
  obtain ⟨w1, w2, w3, w4, w5, w6⟩ := lf (lw + 1) (Nat.le_refl _)
  rw [ho] at w1 w6
  have w1' : μ 6 (lw + 1) = ((cn g.K (4 * o + 2) + 1 : Nat) : Int) := by rw [w1, show ((o : Int) + 1).toNat = o + 1 by omega, co]
  have w6' : μ 5 (lw + 1) = (ga : Int) + 1 := by rw [w6 (by omega), Int.toNat_natCast, hga]
  obtain ⟨as, a1, a2, a3, a4⟩ := LV.aim (p := p) (μ := z_up μ 3 2 ((i + 1 : Nat) : Int)) (Z := cn g.K 84) (O := μ (p + 1)) (F := μ (p + 2)) (by omega) ky tk (by rw [mi _ (by omega)]; exact rp) (by omega) tg
  obtain ⟨z, μ1, b1, b2, b3, b4, b5⟩ := e_close (L := L) (ρ := ρ) rc hp pr hp6 (E := E (lw + 1)) (Z := cn g.K 84) (lv := lw + 1) (as := as) (μ := z_up μ 3 2 ((i + 1 : Nat) : Int)) (by omega) (by omega) (by omega) ((z_up_nj (by decide)).trans d5) ((z_up_ne (by omega)).trans p5) (by rw [z_up_ne (by decide), a1, w1, ho]) ((z_up_ne (by decide)).trans w3) a3
  rw [z_up_ne (by decide), z_up_ne (by decide), w4, w5, ← hem] at b2
  rw [b2] at b1
  rw [mi _ (by omega)] at b5
  obtain ⟨μ2, i1, v1, v2, v3, v4, v5, v6⟩ := e_append (L := L) (ρ := ρ) hp pr (Z := cn g.K 84) (op := 8) (f := 2 * (ga : Int) + 1) (μ := μ1) (by omega) ((b3 p 5 (by omega)).trans ((z_up_ne (by omega)).trans p5))
  have m2 : ∀ q j, q < p ∨ p + 3 < q → μ2 q j = z_up μ 3 2 ((i + 1 : Nat) : Int) q j := fun q j hq => (v1 q j hq).trans (b3 q j (by omega))
  have cl : f_Pr_closeGroup 3 p (SH L, ρ, z_up μ 3 2 ((i + 1 : Nat) : Int)) = f_Pr_readQuantifier 3 ((cn g.K (4 * o + 2) : Nat) : Int) em p (SH L, ρ, z_up μ2 3 6 (lw : Int)) := by
    unfold f_Pr_closeGroup
    rw [zgI_k s_3, Option.bind_some, z_up_nj (by decide), d5, if_neg (by omega), zck_k s_3, Option.bind_some, b1, Option.bind_some]
    dsimp only
    rw [zgR_k s_3 rc.2.1.2.1 (by decide), Option.bind_some, zgI_k s_3, Option.bind_some, b3 3 6 (by omega), z_up_nj (by decide), d5, zaI_k s_5 (by omega) (by omega), Option.bind_some, Int.toNat_natCast, b3 5 _ (by omega), z_up_ne (by decide), w6', zck_k hp.1, Option.bind_some, zw_of (x := 2 * ((ga : Int) + 1)) (by omega) (by omega), zw_of (x := 2 * ((ga : Int) + 1) - 1) (by omega) (by omega), show 2 * ((ga : Int) + 1) - 1 = 2 * (ga : Int) + 1 by omega, i1, Option.bind_some, zgR_k s_3 rc.2.1.2.2.1 (by decide), Option.bind_some, zgI_k s_3, Option.bind_some, m2 3 6 (by omega), z_up_nj (by decide), d5, zaI_k s_6 (by omega) (by omega), Option.bind_some, Int.toNat_natCast, m2 6 _ (by omega), z_up_ne (by decide), w1', Option.bind_some, zw_of (x := ((lw + 1 : Nat) : Int) - 1) (by omega) (by omega), show ((lw + 1 : Nat) : Int) - 1 = (lw : Int) by omega, zpI_k s_3, Option.bind_some, zck_k s_3, Option.bind_some, zw_of (x := ((cn g.K (4 * o + 2) + 1 : Nat) : Int) - 1) (by omega) (by omega), show ((cn g.K (4 * o + 2) + 1 : Nat) : Int) - 1 = ((cn g.K (4 * o + 2) : Nat) : Int) by omega, ob_id]
  rw [e0, cl]
  have hs3 : Src (z_up μ2 3 6 (lw : Int)) n c := c1.of (by rw [z_up_nj (by decide), m2 3 1 (by omega), z_up_nj (by decide)]) (fun j => by rw [z_up_ne (by decide), m2 4 j (by omega), z_up_ne (by decide)])
  have h34 : z_up μ2 3 6 (lw : Int) 3 4 = 0 := by rw [z_up_nj (by decide), m2 3 4 (by omega), z_up_nj (by decide)]; exact d3
  have h32 : z_up μ2 3 6 (lw : Int) 3 2 = ((i + 1 : Nat) : Int) := by rw [z_up_nj (by decide), m2 3 2 (by omega), z_up_eq]
  have h39 : z_up μ2 3 6 (lw : Int) 9 lw = ν 251 lw := by rw [z_up_ne (by decide), m2 9 lw (by omega), z_up_ne (by decide)]; exact (lf lw (by omega)).2.2.2.1
  have h35 : z_up μ2 3 6 (lw : Int) p 5 = ((cn g.K 84 + 1 : Nat) : Int) := (z_up_ne (by omega)).trans v3
  have fr1 : ∀ q, q ≠ p + 2 → q ≠ 3 → μ1 q = μ q := fun q h1 h2 => funext fun j => (b3 q j h1).trans (z_up_ne h2)
  have op8 : z_up μ2 3 6 (lw : Int) (p + 1) (cn g.K (4 * o + 2)) = 8 := by
    rw [z_up_ne (by omega), v4, insA_lt (by omega), fr1 _ (by omega) (by omega), (rp.2.2 _ t1 (fun w => w)).1, ko8]
  obtain ⟨μ', t1', t2'⟩ := e_quant (L := L) rc hp pr hp6 (n := n) (b := i + 1) (s := cn g.K (4 * o + 2)) (Z := cn g.K 84 + 1) (lv := lw) (c := c) (μ := z_up μ2 3 6 (lw : Int)) hs3 (by omega) h32 h34 z_up_eq (by omega) (by omega) (by omega) h35 em
  rw [t1']
  have qn := qN_4 (c := c) (b := i + 1)
  have em01 : em = 0 ∨ em = 1 := by
    rw [hem]
    by_cases w : ν 250 (lw + 1) = 0 ∧ ν 251 (lw + 1) = 0
    · rw [if_pos w]; exact Or.inl rfl
    · rw [if_neg w]; exact Or.inr rfl
  rw [op8, h39] at t2'
  have llt := iv.lvLt2 (show lw < lw + 1 by omega) (Nat.le_refl _)
  have good : ¬ (em ≠ 0 ∧ (qN c (i + 1) = 1 ∨ qN c (i + 1) = 2)) → ((qN c (i + 1) = 0 ∧ μ' = z_up (z_up μ2 3 6 (lw : Int)) 9 lw (if ν 251 lw = 0 ∨ em = 0 then 0 else 1)) ∨ (qN c (i + 1) ≠ 0 ∧ ∃ μ1' μ2', μ1' = z_up (z_up (z_up μ2 3 6 (lw : Int)) 3 2 (qE c (i + 1) : Int)) 3 4 0 ∧ RepO p (cn g.K (4 * o + 2)) (cn g.K 84 + 1) (c (i + 1)) (qL c (i + 1)) μ1' μ2' ∧ μ' = z_up μ2' 9 lw (if ν 251 lw = 0 ∨ qN c (i + 1) = 2 then 0 else 1))) → TRs L ρ p pt n en c μ ν i (lw + 1) gr μ' := by
    intro nb hQ
    obtain ⟨⟨f1, f2, f3, f4⟩, f32, f34, f9⟩ := q_fr hp6 h32 h34 hQ
    obtain ⟨ee, hee⟩ : ∃ e : Nat, e = if em = 0 then 1 else 0 := ⟨_, rfl⟩
    have k1p : ∀ x, barO g (txOf ν pt en) i (ν 248 (lw + 1)) x → (gCl g (txOf ν pt en) i o ga ee).k1 x = 4 * i + 2 := fun x hx => if_pos (by rw [← ho]; exact hx)
    have k1n : ∀ x, ¬ barO g (txOf ν pt en) i (ν 248 (lw + 1)) x → (gCl g (txOf ν pt en) i o ga ee).k1 x = g.k1 x := fun x hx => if_neg (fun z => hx (by rw [← ho] at z; exact z))
    have koN : (gCl g (txOf ν pt en) i o ga ee).ko (4 * i + 2) = 8 := udi_e
    have koO : ∀ x, x ≠ 4 * i + 2 → (gCl g (txOf ν pt en) i o ga ee).ko x = g.ko x := fun x w => udi_n w
    have k2e : (gCl g (txOf ν pt en) i o ga ee).k2 = g.k2 := rfl
    have kA : ∀ x, (gCl g (txOf ν pt en) i o ga ee).K x = true → x = 4 * i + 2 ∨ (x ≠ 4 * i + 2 ∧ g.K x = true) := fun x z => by
      by_cases w : x = 4 * i + 2
      · exact Or.inl w
      · have e : kad g.K (4 * i + 2) x = g.K x := kad_o w
        exact Or.inr ⟨w, e.symm.trans z⟩
    have kb : ∀ x, g.K x = true → (g.ko x = 6 ∨ g.ko x = 7 → (gCl g (txOf ν pt en) i o ga ee).k1 x ≤ 4 * i + 2) ∧ (g.ko x = 6 → g.k2 x ≤ 4 * i + 2) := fun x z => by
      obtain ⟨w1, w2⟩ := tg x z
      refine ⟨fun u => ?_, fun u => by have := w2 u; omega⟩
      by_cases w : barO g (txOf ν pt en) i (ν 248 (lw + 1)) x
      · rw [k1p x w]
        exact Nat.le_refl _
      · rw [k1n x w]
        have := w1 u
        omega
    have rN := a4 (μ1 (p + 2)) (gCl g (txOf ν pt en) i o ga ee).k1 b4 b5 k1p k1n
    rw [mi _ (by omega)] at rN
    have rA := RepN.app rN (y := 4 * i + 2) (fun x z => by have := ky.1 x z; omega) (by omega) kb (op := 8) (f := 2 * (ga : Int) + 1) (by decide) (by decide)
    have nn : ∀ (g : Nat → Nat → Int) (c c' j' : Nat) (v : Int), c ≠ c' → z_up g c' j' v c = g c := fun g c c' j' v h => funext fun j => z_up_ne h
    have rA' : RepG (gCl g (txOf ν pt en) i o ga ee) (cn g.K 84 + 1) (z_up μ2 3 6 (lw : Int) (p + 1)) (z_up μ2 3 6 (lw : Int) (p + 2)) (z_up μ2 3 6 (lw : Int) (p + 3)) := by
      rw [nn _ _ _ _ _ (by omega), nn _ _ _ _ _ (by omega), nn _ _ _ _ _ (by omega), v4, v5, v6, fr1 (p + 1) (by omega) (by omega), fr1 (p + 3) (by omega) (by omega)]
      exact rA
    obtain ⟨p1, p2, lz, hqp, hl, hv⟩ := q_rep (μ' := μ') hp6 rA' h35 (show o < i + 1 by omega) (show i + 1 ≤ n by omega) n20 c1.2.2.2 (fun x z => by
      obtain w | ⟨w, z⟩ := kA x z
      · omega
      · have := ky.1 x z
        omega) (fun x z => by
      obtain w | ⟨w, z⟩ := kA x z
      · subst w
        rw [koN]
        exact ⟨fun u => by omega, fun u => by omega⟩
      · obtain ⟨w1, w2⟩ := kb x z
        rw [koO x w, k2e]
        exact ⟨fun u => by have := w1 u; omega, fun u => by have := w2 u; omega⟩) (fun z => by
      obtain w | ⟨w, z⟩ := kA _ z
      · omega
      · exact xK z) (by
      show cn (kad g.K (4 * i + 2)) (4 * o + 2) = _
      rw [cn_kad nk, if_neg (by omega), Nat.add_zero]) (fun x z _ => by
      obtain w | ⟨w, z⟩ := kA x z
      · subst w
        rw [koN]
        exact ⟨fun u => by omega, fun u => by omega⟩
      · obtain ⟨w1, w2⟩ := xn x z (fun w => w)
        rw [koO x w, k2e]
        refine ⟨fun u => ?_, w2⟩
        by_cases w3 : barO g (txOf ν pt en) i (ν 248 (lw + 1)) x
        · rw [k1p x w3]
          have := iv.ow w3.2.1 w3.2.2.1 (Or.inl w3.2.2.2.1)
          have e5 := w3.2.2.2.2
          have e1 := w3.1
          omega
        · rw [k1n x w3]
          exact w1 u) hQ
    obtain ⟨pe, hpe⟩ : ∃ x : Int, x = (if ν 251 lw = 0 then 0 else if em ≠ 0 ∨ qN c (i + 1) = 1 ∨ qN c (i + 1) = 3 then 1 else 0) := ⟨_, rfl⟩
    have pe01 : pe = 0 ∨ pe = 1 := by
      rw [hpe]
      by_cases w : ν 251 lw = 0
      · rw [if_pos w]; exact Or.inl rfl
      · rw [if_neg w]
        by_cases w2 : em ≠ 0 ∨ qN c (i + 1) = 1 ∨ qN c (i + 1) = 3
        · rw [if_pos w2]; exact Or.inr rfl
        · rw [if_neg w2]; exact Or.inl rfl
    have f9' : μ' 9 lw = pe := by
      rw [f9, hpe]
      by_cases w : ν 251 lw = 0
      · rw [if_pos w, if_pos (Or.inl w), if_pos (Or.inl w)]
        by_cases w2 : qN c (i + 1) = 0
        · rw [if_pos w2]
        · rw [if_neg w2]
      · rw [if_neg w]
        by_cases w2 : qN c (i + 1) = 0
        · rw [if_pos w2]
          by_cases w3 : em = 0
          · rw [if_pos (Or.inr w3), if_neg (by omega)]
          · rw [if_neg (by omega), if_pos (Or.inl w3)]
        · rw [if_neg w2]
          by_cases w3 : qN c (i + 1) = 2
          · rw [if_pos (Or.inr w3), if_neg (by omega)]
          · rw [if_neg (by omega), if_pos (by omega)]
    obtain ⟨v, hvv⟩ : ∃ v : Nat, (v : Int) = g.dp (ν 248 lw + 1).toNat + (1 - pe) := ⟨g.dp (ν 248 lw + 1).toNat + (1 - pe).toNat, by omega⟩
    obtain ⟨hR, hZ⟩ := hv v
    obtain ⟨e1, e2, e3⟩ := qE_b (c := c) (show i + 1 ≤ n by omega) c1.2.2.2
    obtain ⟨Q, hQ'⟩ : ∃ x : Int, x = (if qL c (i + 1) = 0 then qN c (i + 1) else qN c (i + 1) + 4) := ⟨_, rfl⟩
    have run' : ∀ N, f_Mo_parse_71 (N + 1) 233 (pt : Int) (enI en) (n : Int) ((lw + 1 : Nat) : Int) (gr : Int) (i : Int) (SH L, ρ, ν) = f_Mo_parse_71 N 233 (pt : Int) (enI en) (n : Int) (lw : Int) (gr : Int) (qE c (i + 1) : Int) (SH L, ρ, mqU ν1 pt o (i + 1) lw Q (qE c (i + 1)) pe) := fun N => by
      rw [run, if_neg nb, ← hpe, ← hQ']
    obtain ⟨ν', hν⟩ : ∃ x, x = mqU ν1 pt o (i + 1) lw Q (qE c (i + 1)) pe := ⟨_, rfl⟩
    rw [← hν] at run'
    unfold mqU at hν
    have fq' : FrQ pt ν ν' := by
      rw [hν]
      exact (((fq.upA (by decide) (by omega)).upA (by decide) (by omega)).upA (by decide) (by omega)).upL (by decide)
    have u0 : ∀ q j, q = 244 ∨ (247 ≤ q ∧ q ≤ 249) → ν' q j = ν q j := fun q j hq => by
      rw [hν, z_up_ne (by omega), z_up_ne (by omega), z_up_ne (by omega), z_up_ne (by omega), n0 q j (by omega) (by omega)]
    have u1 : ∀ q j, q = 250 ∨ q = 251 → j ≠ lw → j ≠ lw + 1 → ν' q j = ν q j := fun q j hq h1 h2 => by
      rw [hν, z_up_oj h1, z_up_ne (by omega), z_up_ne (by omega), z_up_ne (by omega), n1 q j (by omega) h2]
    have u1' : ν' 250 lw = ν 250 lw := by
      rw [hν, z_up_ne (by omega), z_up_ne (by omega), z_up_ne (by omega), z_up_ne (by omega), n1 250 lw (by omega) (by omega)]
    have u2 : ν' 251 lw = pe := by rw [hν, z_up_eq]
    have u3 : ∀ q m, 241 ≤ q → q ≤ 243 → m ≠ o → ν' q (21 * pt + m) = ν q (21 * pt + m) := fun q m h1 h2 hm => by
      have hm' : 21 * pt + m ≠ 21 * pt + o := by omega
      rw [hν, z_up_ne (by omega), z_up_oj hm', z_up_oj hm', z_up_oj hm', n0 q _ (by omega) (by omega)]
    have u5 : ∀ q m, q = 245 ∨ q = 246 → m ≠ i → ν' q (21 * pt + m) = ν q (21 * pt + m) := fun q m h1 hm => by
      rw [hν, z_up_ne (by omega), z_up_ne (by omega), z_up_ne (by omega), z_up_ne (by omega), n2 q m h1 hm]
    have u6 : ν' 245 (21 * pt + i) = o := by
      rw [hν, z_up_ne (by omega), z_up_ne (by omega), z_up_ne (by omega), z_up_ne (by omega), n3]
    have u4 : ν' 241 (21 * pt + o) = Q ∧ ν' 242 (21 * pt + o) = ((i + 1 : Nat) : Int) ∧ ν' 243 (21 * pt + o) = qE c (i + 1) := by
      rw [hν]
      exact ⟨by rw [z_up_ne (by omega), z_up_ne (by omega), z_up_ne (by omega), z_up_eq], by rw [z_up_ne (by omega), z_up_ne (by omega), z_up_eq], by rw [z_up_ne (by omega), z_up_eq]⟩
    have ck : ∀ t, t ≤ 4 * o + 1 → cn (gQ (gCl g (txOf ν pt en) i o ga ee) o (i + 1) (qE c (i + 1)) p1 p2 lz v).K t = cn g.K t := fun t ht => cn_congr t fun x hx => by
      show (kad g.K (4 * i + 2) x || (p1 && decide (x = 4 * o + 1)) || (p2 && decide (x = 4 * (i + 1) + 2))) = g.K x
      rw [kad_o (by omega), decide_eq_false (by omega), decide_eq_false (by omega), Bool.and_false, Bool.and_false, Bool.or_false, Bool.or_false]
    have m9 : ∀ q j, q ≠ 3 → q ≠ 9 → q < p → μ' q j = μ q j := fun q j h3 h9 hq => by
      rw [f1 q j h3 h9 (Or.inl hq), z_up_ne h3, m2 q j (Or.inl hq), z_up_ne h3]
    have m3 : ∀ j, j ≠ 2 → j ≠ 4 → j ≠ 6 → μ' 3 j = μ 3 j := fun j h1 h2 h3 => by
      rw [f2 j h1 h2, z_up_nj h3, m2 3 j (by omega), z_up_nj h1]
    refine ⟨fun q j h1 h2 => ?_, Or.inl ⟨ν', gQ (gCl g (txOf ν pt en) i o ga ee) o (i + 1) (qE c (i + 1)) p1 p2 lz v, sc, qE c (i + 1), lw, gr, E, by omega, fq', run', ⟨c1.of (m3 1 (by decide) (by decide) (by decide)) (fun j => m9 4 j (by decide) (by decide) (by omega)), fq'.ta.trans c2, (fq'.1 239 pt (by omega)).trans c3, c4⟩, ⟨f32, (m3 3 (by decide) (by decide) (by decide)).trans d2, f34, (m3 5 (by decide) (by decide) (by decide)).trans d4, (f2 6 (by decide) (by decide)).trans z_up_eq⟩, ⟨hZ, ?_⟩, hR, fun l hl => ?_, ?_⟩⟩
    · rw [f1 q j (by omega) (by omega) (by omega), z_up_ne (by omega), m2 q j (by omega), z_up_ne (by omega)]
    · rw [f4 6 (by decide), z_up_ne (by omega), v2 6 (by decide), b3 p 6 (by omega), z_up_ne (by omega)]
      exact p6
    · obtain ⟨w1, w2, w3, w4, w5, w6⟩ := lf l (by omega)
      obtain ⟨y1, y2, -⟩ := id (lf0 l (by omega))
      have y3 := iv.lvLt2 (show l < lw + 1 by omega) (Nat.le_refl _)
      rw [u0 248 l (by omega), u0 249 l (by omega), u0 244 _ (by omega), m9 6 l (by decide) (by decide) (by omega), m9 7 l (by decide) (by decide) (by omega), m9 8 l (by decide) (by decide) (by omega), m9 10 l (by decide) (by decide) (by omega), m9 5 l (by decide) (by decide) (by omega), ck _ (by omega), ck _ (by omega)]
      by_cases e : l = lw
      · rw [e] at w1 w2 w3 w4 w5 w6 ⊢
        rw [f9', u2, u1']
        exact ⟨w1, w2, w3, rfl, w5, w6⟩
      · rw [u1 250 l (by omega) e (by omega), u1 251 l (by omega) e (by omega), f3 l e, z_up_ne (by decide), m2 9 l (by omega), z_up_ne (by decide)]
        exact ⟨w1, w2, w3, w4, w5, w6⟩
    · have s4 : μ' (p + 4) = μ (p + 4) := funext fun j => by rw [f1 _ j (by omega) (by omega) (by omega), z_up_ne (by omega), m2 _ j (by omega), z_up_ne (by omega)]
      have s5 : μ' (p + 5) = μ (p + 5) := funext fun j => by rw [f1 _ j (by omega) (by omega) (by omega), z_up_ne (by omega), m2 _ j (by omega), z_up_ne (by omega)]
      rw [s4, s5]
      refine st_close iv (show i < (ν 239 pt).toNat by omega) (by show tA ν pt i = 41; rw [c2]; exact hc) ho hga hem hee (r := qE c (i + 1)) (v := v) (qv := qN c (i + 1)) (show qE c (i + 1) ≤ (ν 239 pt).toNat by omega) hqp e1 e3 (fun z => by omega) ⟨fq'.ta, rfl, congrArg Int.toNat (fq'.1 239 pt (by omega)), u0 247 pt (by omega)⟩ (fun m hm => ⟨u3 _ _ (by decide) (by decide) hm, u3 _ _ (by decide) (by decide) hm, u3 _ _ (by decide) (by decide) hm⟩) (fun m hm => ⟨u5 _ _ (by omega) hm, u5 _ _ (by omega) hm⟩) u6 ⟨u4.2.1, u4.2.2, ?_⟩ (fun m => u0 _ _ (by omega)) (fun l hl => ⟨u0 _ _ (by omega), u0 _ _ (by omega), ?_, rfl⟩) (fun l hl => u1 _ l (by omega) (by omega) (by omega)) (by rw [u2, hpe]) (by rw [u2]; exact hvv)
      · show ν' 241 (21 * pt + o) = _
        rw [u4.1, hQ']
        obtain ⟨w1, w2⟩ | ⟨w1, w2⟩ := hl
        · rw [if_pos w1, if_neg (fun z => by rw [w2] at z; cases z.1)]
        · rw [if_neg w1, if_pos ⟨w2, fun z => w1 (by unfold qL; rw [if_pos z])⟩]
      · by_cases e : l = lw
        · rw [e]
          exact u1'
        · exact u1 _ l (by omega) e (by omega)
  obtain ⟨z1, z2⟩ | ⟨z1, z2, z3⟩ | ⟨z1, z2, z3⟩ := t2'
  · exact ⟨μ', rfl, good (by omega) (Or.inl ⟨z1, z2⟩)⟩
  · exact ⟨μ', rfl, good (by omega) (Or.inr ⟨z1, z3⟩)⟩
  · have bad : em ≠ 0 ∧ (qN c (i + 1) = 1 ∨ qN c (i + 1) = 2) := by omega
    obtain ⟨y1, y2, ⟨y3, y3'⟩, y4, y5⟩ := z3
    refine ⟨μ', rfl, fun q j h1 h2 => ?_, Or.inr ⟨?_, ν1, fq, fun N => ?_⟩⟩
    · rw [y1 q j (by omega) (by omega) h2, z_up_ne (by omega), m2 q j (by omega), z_up_ne (by omega)]
    · refine h.bad (l := lw) (by omega) (cn_le2 (by omega)) y3 ?_ y4 ?_ ?_ (fun j hj => ?_)
      · rw [y2 6 (by decide) (by decide) (by decide) (by decide), z_up_eq]
      · rw [y1 6 lw (by decide) (by decide) (by omega), z_up_ne (by decide), m2 6 lw (by omega), z_up_ne (by decide)]
      · rw [y1 8 lw (by decide) (by decide) (by omega), z_up_ne (by decide), m2 8 lw (by omega), z_up_ne (by decide)]
      · rw [y5 j hj, z_up_ne (by omega), v6, insA_lt (by omega), fr1 _ (by omega) (by omega)]
    · rw [run, if_pos bad]
      exact m_neg
end Trc2
