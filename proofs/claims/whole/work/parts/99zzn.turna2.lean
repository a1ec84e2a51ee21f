/-! One turn: an atom, both -/
section Tra2
variable {L : Nat} {ρ : Nat → Nat → Nat} {p pt n sc i lv gr : Nat} {en : Bool} {c : Nat → Int} {μ ν : Nat → Nat → Int} {g : PG} {E : Nat → Nat}
theorem tu_atom (rc : Rc ρ) (rm : Rm ρ) (hp : ptS L p) (pr : ptR ρ p) (hp6 : 36 ≤ p) (hpt : pt < 22) (h : PHp p pt n en c μ ν g sc i lv gr E) (hi : i < n) (hc : c i ≠ 40 ∧ c i ≠ 41 ∧ c i ≠ 124) : ∃ μ', f_Pr_readNext 3 p (SH L, ρ, μ) = some (SH L, ρ, μ') ∧ TRs L ρ p pt n en c μ ν i lv gr μ' := by
  have e0 := rn_0 (L := L) rc h hi
  rw [if_neg hc.2.2, if_neg hc.1, if_neg hc.2.1] at e0
  have mR := fun (B : Int) hB N => m_atomR (L := L) rm hpt h hi hc (B := B) hB N
  obtain ⟨⟨c1, c2, c3, c4⟩, ⟨d1, d2, d3, d4, d5⟩, ⟨p5, p6⟩, rp, lf, iv⟩ := id h
  obtain ⟨⟨q1, q2, q3, q4, q5⟩, ky, tg, -, -, lf0, -, -, zc⟩ := id iv
  have n20 := c1.2.1
  have fq : FrQ pt ν (z_up ν 246 (21 * pt + i) (-1)) := FrQ.rf.upA (by decide) (by omega)
  have ta : tA (z_up ν 246 (21 * pt + i) (-1)) pt = c := fq.ta.trans c2
  have n9 : z_up ν 246 (21 * pt + i) (-1) 239 pt = n := (fq.1 239 pt (by omega)).trans c3
  obtain ⟨x1, x2, -, -, -, -, ⟨x7, x8⟩, -⟩ := id (lf0 lv (Nat.le_refl _))
  have hs0 : Src (z_up μ 3 2 ((i + 1 : Nat) : Int)) n c := c1.of (z_up_nj (by decide)) (fun j => z_up_ne (by decide))
  have mi : ∀ q, q ≠ 3 → z_up μ 3 2 ((i + 1 : Nat) : Int) q = μ q := fun q hq => funext fun j => z_up_ne hq
  have top : cn g.K (4 * i + 2) = cn g.K 84 := RepN.top rp (fun x z => by have := ky.1 x z; omega) (by omega)
  obtain ⟨em, μ1, r1, r2⟩ := e_atom (L := L) rc hp pr hp6 (n := n) (i := i) (Z := cn g.K 84) (sc := sc) (c := c) (en := en) (μ := z_up μ 3 2 ((i + 1 : Nat) : Int)) hs0 hi z_up_eq ((z_up_nj (by decide)).trans d2) ((z_up_nj (by decide)).trans d3) (by omega) ((z_up_ne (by omega)).trans p5) q5 ((z_up_ne (by omega)).trans p6) c4 hc
  rw [zgI_k hp.1, Option.bind_some, z_up_ne (by omega), p5, r1, Option.bind_some, zck_k s_3, Option.bind_some, ob_id] at e0
  rw [e0]
  have hll : cn g.K (4 * (ν 249 lv + 1).toNat) ≤ cn g.K 84 := cn_le2 (by omega)
  obtain ⟨b, sc', op, f, hA, hbn, hO, hsh⟩ | ⟨hB, hem, hsh⟩ := r2
  · -- an atom
    obtain ⟨o1, o2, o3, o4, o5, ⟨o6, o7, o8⟩, o9⟩ := hO
    rw [mi _ (by omega)] at o6 o7 o8
    have simp0 := m_simple_ok (L := L) (pt := pt) (n := n) (i := i) (b := b) rm hpt n9 n20 (by rw [ta]; exact fun j hj => (c1.2.2.1 j hj).2) hi en (by rw [ta]; exact hc) (by rw [ta]; exact hsh)
    have hab := hA.1
    have hem := hA.em
    have mR1 := fun N => mR _ simp0 N
    simp only [if_pos (Int.natCast_nonneg b), ← hem] at mR1
    have mq := m_quant (L := L) (pt := pt) (a := i) (b := b) (lv := lv) (n := n) rm hpt (by omega) (by omega) (by omega) (ν := z_up ν 246 (21 * pt + i) (-1)) n9 n20 (em := em) (by rw [z_up_ne (by decide)]; exact x7)
    rw [ta, z_up_ne (by decide)] at mq
    have hs1 : Src μ1 n c := c1.of ((o2 1 (by decide) (by decide) (by decide)).trans (z_up_nj (by decide))) (fun j => (o1 4 j (by decide) (by omega)).trans (z_up_ne (by decide)))
    have h14 : μ1 3 4 = 0 := (o2 4 (by decide) (by decide) (by decide)).trans ((z_up_nj (by decide)).trans d3)
    have h16 : μ1 3 6 = lv := (o2 6 (by decide) (by decide) (by decide)).trans ((z_up_nj (by decide)).trans d5)
    have h19 : μ1 9 lv = ν 251 lv := (o1 9 lv (by decide) (by omega)).trans ((z_up_ne (by decide)).trans (lf lv (Nat.le_refl _)).2.2.2.1)
    obtain ⟨μ', t1, t2⟩ := e_quant (L := L) rc hp pr hp6 (n := n) (b := b) (s := cn g.K 84) (Z := cn g.K 84 + 1) (lv := lv) (c := c) (μ := μ1) hs1 hbn o3 h14 h16 (by omega) (by omega) (by omega) o4 em
    rw [t1]
    have op5 : μ1 (p + 1) (cn g.K 84) = op := by rw [o6, insA_eq]
    have i5 : op = 5 ↔ isR c i = 1 := by
      obtain ⟨z1, -, z2, -⟩ | ⟨z1, z2, z3, -⟩ := hA.2.2 <;> omega
    have o67 : op ≠ 6 ∧ op ≠ 7 := by
      obtain ⟨z1, -, z2, -⟩ | ⟨z1, z2, z3, -⟩ := hA.2.2 <;> omega
    have qn := qN_4 (c := c) (b := b)
    rw [op5, h19] at t2
    have good : ¬ ((em ≠ 0 ∧ (qN c b = 1 ∨ qN c b = 2)) ∨ (isR c i = 1 ∧ 0 < qN c b)) → ((qN c b = 0 ∧ μ' = z_up μ1 9 lv (if ν 251 lv = 0 ∨ em = 0 then 0 else 1)) ∨ (qN c b ≠ 0 ∧ ∃ μ1' μ2, μ1' = z_up (z_up μ1 3 2 (qE c b : Int)) 3 4 0 ∧ RepO p (cn g.K 84) (cn g.K 84 + 1) (c b) (qL c b) μ1' μ2 ∧ μ' = z_up μ2 9 lv (if ν 251 lv = 0 ∨ qN c b = 2 then 0 else 1))) → TRs L ρ p pt n en c μ ν i lv gr μ' := by
      intro nb hQ
      rw [if_neg nb] at mq
      obtain ⟨⟨f1, f2, f3, f4⟩, f32, f34, f9⟩ := q_fr hp6 o3 h14 hQ
      have nk : g.K (4 * i + 2) ≠ true := fun z => by have := ky.1 _ z; omega
      have kA : ∀ x, (gAt g i op f).K x = true → x = 4 * i + 2 ∨ (x ≠ 4 * i + 2 ∧ g.K x = true) := fun x z => by
        by_cases w : x = 4 * i + 2
        · exact Or.inl w
        · have e : kad g.K (4 * i + 2) x = g.K x := kad_o w
          exact Or.inr ⟨w, e.symm.trans z⟩
      have koN : (gAt g i op f).ko (4 * i + 2) = op := udi_e
      have koO : ∀ x, x ≠ 4 * i + 2 → (gAt g i op f).ko x = g.ko x := fun x w => udi_n w
      have k1e : (gAt g i op f).k1 = g.k1 := rfl
      have k2e : (gAt g i op f).k2 = g.k2 := rfl
      have rA := RepN.app rp (y := 4 * i + 2) (fun x z => by have := ky.1 x z; omega) (by omega) (fun x z => by
        obtain ⟨w1, w2⟩ := tg x z
        exact ⟨fun u => by have := w1 u; omega, fun u => by have := w2 u; omega⟩) (op := op) (f := f) o67.1 o67.2
      have rA' : RepG (gAt g i op f) (cn g.K 84 + 1) (μ1 (p + 1)) (μ1 (p + 2)) (μ1 (p + 3)) := by
        rw [o6, o7, o8]
        exact rA
      obtain ⟨p1, p2, lz, hqp, hl, hv⟩ := q_rep (μ' := μ') hp6 rA' o4 hab hbn n20 c1.2.2.2 (fun x z => by
        obtain w | ⟨w, z⟩ := kA x z
        · omega
        · have := ky.1 x z
          omega) (fun x z => by
        obtain w | ⟨w, z⟩ := kA x z
        · subst w
          rw [koN]
          exact ⟨fun u => by omega, fun u => by omega⟩
        · obtain ⟨w1, w2⟩ := tg x z
          rw [koO x w, k1e, k2e]
          exact ⟨fun u => by have := w1 u; omega, fun u => by have := w2 u; omega⟩) (fun z => by
        obtain w | ⟨w, z⟩ := kA _ z
        · omega
        · have := ky.1 _ z
          omega) (by
        show cn (kad g.K (4 * i + 2)) (4 * i + 2) = _
        rw [cn_kad nk, if_neg (Nat.lt_irrefl _), top, Nat.add_zero]) (fun x z _ => by
        obtain w | ⟨w, z⟩ := kA x z
        · subst w
          rw [koN]
          exact ⟨fun u => by omega, fun u => by omega⟩
        · obtain ⟨w1, w2⟩ := tg x z
          have := ky.1 x z
          rw [koO x w, k1e, k2e]
          exact ⟨fun u => by have := w1 u; omega, fun u => by have := w2 u; omega⟩) hQ
      obtain ⟨pe, hpe⟩ : ∃ x : Int, x = (if ν 251 lv = 0 then 0 else if em ≠ 0 ∨ qN c b = 1 ∨ qN c b = 3 then 1 else 0) := ⟨_, rfl⟩
      have pe01 : pe = 0 ∨ pe = 1 := by
        rw [hpe]
        by_cases w : ν 251 lv = 0
        · rw [if_pos w]; exact Or.inl rfl
        · rw [if_neg w]
          by_cases w2 : em ≠ 0 ∨ qN c b = 1 ∨ qN c b = 3
          · rw [if_pos w2]; exact Or.inr rfl
          · rw [if_neg w2]; exact Or.inl rfl
      have f9' : μ' 9 lv = pe := by
        rw [f9, hpe]
        by_cases w : ν 251 lv = 0
        · rw [if_pos w, if_pos (Or.inl w), if_pos (Or.inl w)]
          by_cases w2 : qN c b = 0
          · rw [if_pos w2]
          · rw [if_neg w2]
        · rw [if_neg w]
          by_cases w2 : qN c b = 0
          · rw [if_pos w2]
            by_cases w3 : em = 0
            · rw [if_pos (Or.inr w3), if_neg (by omega)]
            · rw [if_neg (by omega), if_pos (Or.inl w3)]
          · rw [if_neg w2]
            by_cases w3 : qN c b = 2
            · rw [if_pos (Or.inr w3), if_neg (by omega)]
            · rw [if_neg (by omega), if_pos (by omega)]
      rw [← hpe] at mq
      obtain ⟨v, hvv⟩ : ∃ v : Nat, (v : Int) = g.dp (ν 248 lv + 1).toNat + (1 - pe) := ⟨g.dp (ν 248 lv + 1).toNat + (1 - pe).toNat, by omega⟩
      obtain ⟨hR, hZ⟩ := hv v
      obtain ⟨e1, e2, e3⟩ := qE_b (c := c) hbn c1.2.2.2
      obtain ⟨Q, hQ'⟩ : ∃ x : Int, x = (if qL c b = 0 then qN c b else qN c b + 4) := ⟨_, rfl⟩
      rw [← hQ'] at mq
      obtain ⟨ν', hν⟩ : ∃ x, x = mqU (z_up ν 246 (21 * pt + i) (-1)) pt i b lv Q (qE c b) pe := ⟨_, rfl⟩
      rw [← hν] at mq
      unfold mqU at hν
      have fq' : FrQ pt ν ν' := by
        rw [hν]
        exact (((fq.upA (by decide) (by omega)).upA (by decide) (by omega)).upA (by decide) (by omega)).upL (by decide)
      have u0 : ∀ q j, q = 244 ∨ q = 245 ∨ (247 ≤ q ∧ q ≤ 250) → ν' q j = ν q j := fun q j hq => by
        rw [hν, z_up_ne (by omega), z_up_ne (by omega), z_up_ne (by omega), z_up_ne (by omega), z_up_ne (by omega)]
      have u1 : ∀ j, j ≠ lv → ν' 251 j = ν 251 j := fun j hj => by
        rw [hν, z_up_nj hj, z_up_ne (by omega), z_up_ne (by omega), z_up_ne (by omega), z_up_ne (by omega)]
      have u2 : ν' 251 lv = pe := by rw [hν, z_up_eq]
      have u3 : ∀ q m, 241 ≤ q → q ≤ 246 → m ≠ i → ν' q (21 * pt + m) = ν q (21 * pt + m) := fun q m h1 h2 hm => by
        have hm' : 21 * pt + m ≠ 21 * pt + i := by omega
        rw [hν, z_up_ne (by omega), z_up_oj hm', z_up_oj hm', z_up_oj hm', z_up_oj hm']
      have u4 : ν' 241 (21 * pt + i) = Q ∧ ν' 242 (21 * pt + i) = b ∧ ν' 243 (21 * pt + i) = qE c b := by
        rw [hν]
        exact ⟨by rw [z_up_ne (by omega), z_up_ne (by omega), z_up_ne (by omega), z_up_eq], by rw [z_up_ne (by omega), z_up_ne (by omega), z_up_eq], by rw [z_up_ne (by omega), z_up_eq]⟩
      have ck : ∀ t, t ≤ 4 * i + 1 → cn (gQ (gAt g i op f) i b (qE c b) p1 p2 lz v).K t = cn g.K t := fun t ht => cn_congr t fun x hx => by
        show (kad g.K (4 * i + 2) x || (p1 && decide (x = 4 * i + 1)) || (p2 && decide (x = 4 * b + 2))) = g.K x
        rw [kad_o (by omega), decide_eq_false (by omega), decide_eq_false (by omega), Bool.and_false, Bool.and_false, Bool.or_false, Bool.or_false]
      have m9 : ∀ q j, q ≠ 3 → q ≠ 9 → q < p → μ' q j = μ q j := fun q j h3 h9 hq => by
        rw [f1 q j h3 h9 (Or.inl hq), o1 q j h3 (Or.inl hq), z_up_ne h3]
      have m3 : ∀ j, j ≠ 2 → j ≠ 4 → j ≠ 13 → j ≠ 14 → μ' 3 j = μ 3 j := fun j h1 h2 h3 h4 => by
        rw [f2 j h1 h2, o2 j h1 h3 h4, z_up_nj h1]
      refine ⟨fun q j h1 h2 => ?_, Or.inl ⟨ν', gQ (gAt g i op f) i b (qE c b) p1 p2 lz v, sc', qE c b, lv, gr, E, by omega, fq', fun N => ?_, ⟨c1.of (m3 1 (by decide) (by decide) (by decide) (by decide)) (fun j => m9 4 j (by decide) (by decide) (by omega)), fq'.ta.trans c2, (fq'.1 239 pt (by omega)).trans c3, c4⟩, ⟨f32, (m3 3 (by decide) (by decide) (by decide) (by decide)).trans d2, f34, (m3 5 (by decide) (by decide) (by decide) (by decide)).trans d4, (m3 6 (by decide) (by decide) (by decide) (by decide)).trans d5⟩, ⟨hZ, (f4 6 (by decide)).trans o5⟩, hR, fun l hl => ?_, ?_⟩⟩
      · rw [f1 q j (by omega) (by omega) (by omega), o1 q j (by omega) h2, z_up_ne (by omega)]
      · rw [mR1, mq, Option.bind_some]
      · obtain ⟨w1, w2, w3, w4, w5, w6⟩ := lf l hl
        obtain ⟨y1, y2, -⟩ := id (lf0 l hl)
        rw [u0 248 l (by omega), u0 249 l (by omega), u0 250 l (by omega), u0 244 _ (by omega), m9 6 l (by decide) (by decide) (by omega), m9 7 l (by decide) (by decide) (by omega), m9 8 l (by decide) (by decide) (by omega), m9 10 l (by decide) (by decide) (by omega), m9 5 l (by decide) (by decide) (by omega), ck _ (by omega), ck _ (by omega)]
        refine ⟨w1, w2, w3, ?_, w5, w6⟩
        by_cases e : l = lv
        · rw [e, f9', u2]
        · rw [u1 l e, f3 l e, o1 9 l (by decide) (by omega), z_up_ne (by decide)]
          exact w4
      · have s4 : μ' (p + 4) = μ1 (p + 4) := funext fun j => f1 _ j (by omega) (by omega) (by omega)
        have s5 : μ' (p + 5) = μ1 (p + 5) := funext fun j => f1 _ j (by omega) (by omega) (by omega)
        rw [s4, s5]
        have ci : tA ν pt i ≠ 40 ∧ tA ν pt i ≠ 41 ∧ tA ν pt i ≠ 124 ∧ tA ν pt i ≠ 0 := by
          rw [c2]
          have := (c1.2.2.1 i hi).2
          exact ⟨hc.1, hc.2.1, hc.2.2, by omega⟩
        refine st_atom iv (show i < (ν 239 pt).toNat by omega) ci (b := b) (r := qE c b) (v := v) (op := op) (f := f) (em := em) (qv := qN c b) (by show AtG (tA ν pt) en _ _ _ _ _ _ _ _ _; rw [c2]; exact hA) (fun j hj => ?_) (show qE c b ≤ (ν 239 pt).toNat by omega) hqp e1 e3 (fun z => by omega) ⟨fq'.ta, rfl, congrArg Int.toNat (fq'.1 239 pt (by omega)), u0 247 pt (by omega)⟩ (fun m hm => ⟨u3 _ _ (by decide) (by decide) hm, u3 _ _ (by decide) (by decide) hm, u3 _ _ (by decide) (by decide) hm, u3 _ _ (by decide) (by decide) hm⟩) ⟨u4.2.1, u4.2.2, ?_⟩ (fun m => ⟨u0 _ _ (by omega), u0 _ _ (by omega)⟩) (fun l _ => ⟨u0 _ _ (by omega), u0 _ _ (by omega), u0 _ _ (by omega), rfl⟩) (fun l hl => u1 l (by omega)) (by rw [u2, hpe]) (by rw [u2]; exact hvv)
        · obtain ⟨w1, w2⟩ := o9 j hj
          rw [w1, w2, z_up_ne (by omega), z_up_ne (by omega)]
          exact ⟨rfl, rfl⟩
        · show ν' 241 (21 * pt + i) = _
          rw [u4.1, hQ']
          obtain ⟨w1, w2⟩ | ⟨w1, w2⟩ := hl
          · rw [if_pos w1, if_neg (fun z => by rw [w2] at z; cases z.1)]
          · rw [if_neg w1, if_pos ⟨w2, fun z => w1 (by unfold qL; rw [if_pos z])⟩]
    obtain ⟨z1, z2⟩ | ⟨z1, z2, z3⟩ | ⟨z1, z2, z3⟩ := t2
    · exact ⟨μ', rfl, good (by omega) (Or.inl ⟨z1, z2⟩)⟩
    · exact ⟨μ', rfl, good (by omega) (Or.inr ⟨z1, z3⟩)⟩
    · have bad : (em ≠ 0 ∧ (qN c b = 1 ∨ qN c b = 2)) ∨ (isR c i = 1 ∧ 0 < qN c b) := by omega
      rw [if_pos bad] at mq
      obtain ⟨b1, b2, ⟨b3, b3'⟩, b4, b5⟩ := z3
      refine ⟨μ', rfl, fun q j h1 h2 => ?_, Or.inr ⟨?_, _, fq, fun N => ?_⟩⟩
      · rw [b1 q j (by omega) (by omega) h2, o1 q j (by omega) h2, z_up_ne (by omega)]
      · refine h.bad (l := lv) (Nat.le_refl _) hll b3 ?_ b4 ?_ ?_ (fun j hj => ?_)
        · rw [b2 6 (by decide) (by decide) (by decide) (by decide)]; exact h16
        · rw [b1 6 lv (by decide) (by decide) (by omega), o1 6 lv (by decide) (by omega), z_up_ne (by decide)]
        · rw [b1 8 lv (by decide) (by decide) (by omega), o1 8 lv (by decide) (by omega), z_up_ne (by decide)]
        · rw [b5 j hj, o8, insA_lt hj]
      · rw [mR1, mq, Option.bind_some]
        exact m_neg
  · -- no atom
    obtain ⟨b1, b2, ⟨b3, b3'⟩, b4, b5⟩ := hB
    have simp0 := m_simple_bad (L := L) (pt := pt) (n := n) (i := i) rm hpt n9 n20 (by rw [ta]; exact fun j hj => (c1.2.2.1 j hj).2) hi en (by rw [ta]; exact hc) (by rw [ta]; exact hsh)
    have mR1 := fun N => mR _ simp0 N
    have h16 : μ1 3 6 = lv := (b2 6 (by decide) (by decide) (by decide) (by decide)).trans ((z_up_nj (by decide)).trans d5)
    rw [e_quantB (L := L) rc (p := p) (n := n) (lv := lv) (μ := μ1) ((b2 1 (by decide) (by decide) (by decide) (by decide)).trans ((z_up_nj (by decide)).trans c1.1)) n20 b3' b3 h16 (by omega) em]
    refine ⟨_, rfl, fun q j h1 h2 => ?_, Or.inr ⟨?_, _, fq, fun N => ?_⟩⟩
    · rw [z_up_ne (by omega), b1 q j (by omega) (by omega) h2, z_up_ne (by omega)]
    · obtain ⟨Z', b6, b7, b8⟩ := b4
      refine h.bad (l := lv) (Nat.le_refl _) hll ((z_up_ne (by decide)).trans b3) ((z_up_ne (by decide)).trans h16) ⟨Z', (z_up_ne (by omega)).trans b6, b7, b8⟩ ?_ ?_ (fun j hj => ?_)
      · rw [z_up_ne (by decide), b1 6 lv (by decide) (by decide) (by omega), z_up_ne (by decide)]
      · rw [z_up_ne (by decide), b1 8 lv (by decide) (by decide) (by omega), z_up_ne (by decide)]
      · rw [z_up_ne (by omega), b5 j hj, z_up_ne (by omega)]
    · rw [mR1, if_neg (by decide)]
      exact m_neg
end Tra2
