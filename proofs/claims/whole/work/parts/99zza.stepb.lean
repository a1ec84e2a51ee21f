/-! A bar -/
section Stb
variable {g : PG} {τ τ' : Tx} {sc : Nat} {slo shi : Nat → Int} {i lv gr : Nat} {lo ll be se lo' ll' be' se' : Nat → Int} {E E' : Nat → Nat}
theorem PIv.lvLt (h : PIv g τ sc slo shi i lv gr lo ll be se E) {l : Nat} : ∀ d, l + d + 1 ≤ lv → ll l < lo (l + d + 1) := by
  intro d
  induction d with
  | zero =>
    intro q
    obtain ⟨-, -, -, -, -, -, -, c8, -⟩ := h.2.2.2.2.2.1 l (by omega)
    exact (c8 (by omega)).1
  | succ d ih =>
    intro q
    have := ih (by omega)
    obtain ⟨-, c2, -, -, -, -, -, c8, -⟩ := h.2.2.2.2.2.1 (l + d + 1) (by omega)
    have := (c8 (by omega)).1
    rw [show l + (d + 1) + 1 = l + d + 1 + 1 by omega]
    omega
theorem PIv.lvLt2 (h : PIv g τ sc slo shi i lv gr lo ll be se E) {l l' : Nat} (h1 : l < l') (h2 : l' ≤ lv) : ll l < lo l' := by
  have := h.lvLt (l := l) (l' - l - 1) (by omega)
  rw [show l + (l' - l - 1) + 1 = l' by omega] at this
  exact this
def gBr (g : PG) (i j : Nat) : PG := (kad (kad g.K (4 * j)) (4 * i + 2), udn g.W i 1, udi (udi g.ko (4 * j) 6) (4 * i + 2) 7, g.kf, udn (udn g.k1 (4 * j) (4 * j + 1)) (4 * i + 2) (4 * i + 2), udn g.k2 (4 * j) (4 * (i + 1)), udn (udn g.D (4 * j) (g.dp j)) (4 * i + 2) (g.dp i), udn g.dp (i + 1) (g.dp j))
theorem st_bar (h : PIv g τ sc slo shi i lv gr lo ll be se E) (hi : i < τ.n) (hc : τ.c i = 124) {j : Nat} (hj : (ll lv + 1).toNat = j) (ht : τ'.c = τ.c ∧ τ'.en = τ.en ∧ τ'.n = τ.n) (htf : (ll lv = -1 → τ'.fb = i) ∧ (ll lv ≠ -1 → τ'.fb = τ.fb)) (ht2 : ∀ m : Nat, m ≠ i → ll lv ≠ m → τ'.ba m = τ.ba m) (ht3 : τ'.ba i = -1 ∧ ∀ m : Nat, ll lv = m → τ'.ba m = i) (ht4 : ∀ m, τ'.qu m = τ.qu m ∧ τ'.ae m = τ.ae m ∧ τ'.pe m = τ.pe m ∧ τ'.go m = τ.go m) (ht5 : τ'.ow i = lo lv ∧ ∀ m, m ≠ i → τ'.ow m = τ.ow m)
    (hl : ∀ l, l < lv → ll' l = ll l ∧ be' l = be l ∧ se' l = se l ∧ E' l = E l) (hlo : ∀ l, l ≤ lv → lo' l = lo l) (hl2 : ll' lv = i ∧ be' lv = 1 ∧ se' lv = (if se lv = 0 ∧ be lv = 0 then 0 else 1) ∧ E' lv = E lv + 1) : PIv (gBr g i j) τ' sc slo shi (i + 1) lv gr lo' ll' be' se' E' := by
  obtain ⟨⟨p1, p2, p3, p4, p5⟩, ⟨y0, y1, y2, y3, y4, y5, y6⟩, tg, tk, br, lf, dpe, pc, zc⟩ := id h
  have v1h := lf lv (Nat.le_refl _)
  obtain ⟨-, v2, v3, v4, v5, v6, v7, v8, v9, v10, ⟨v11, v12⟩, js, j1, j2, j3, j4⟩ := id v1h
  rw [hj] at v3 v6 v11 j2
  have lo0 : -1 ≤ lo lv := by
    obtain ⟨-, v1⟩ | ⟨-, o, o1, -⟩ := v1h.1
    · omega
    · omega
  have hji : j ≤ i := by omega
  have hjl : (j : Int) = ll lv + 1 := by omega
  have nK : ∀ x, 4 * i ≤ x → g.K x ≠ true := fun x q z => by have := y0 x z; omega
  have kK : ∀ x, (gBr g i j).K x = true → x ≠ 4 * i + 2 → x ≠ 4 * j → g.K x = true := fun x z q1 q2 => by
    have e : kad (kad g.K (4 * j)) (4 * i + 2) x = g.K x := (kad_o q1).trans (kad_o q2)
    exact e.symm.trans z
  have kN : (gBr g i j).K (4 * i + 2) = true := kad_y
  have kJ : (gBr g i j).K (4 * j) = true := kad_k kad_y
  have kM : ∀ x, g.K x = true → (gBr g i j).K x = true := fun x z => kad_k (kad_k z)
  have xN : ∀ x, g.K x = true → x ≠ 4 * i + 2 ∧ x ≠ 4 * j := fun x z => ⟨fun e => nK x (by omega) z, fun e => by rw [e] at z; exact v3 z⟩
  have wO : ∀ m, m ≠ i → (gBr g i j).W m = g.W m := fun m q => udn_n q
  have wN : (gBr g i j).W i = 1 := udn_e
  have koO : ∀ x, x ≠ 4 * i + 2 → x ≠ 4 * j → (gBr g i j).ko x = g.ko x := fun x q1 q2 => (udi_n q1).trans (udi_n q2)
  have koN : (gBr g i j).ko (4 * i + 2) = 7 := udi_e
  have koJ : (gBr g i j).ko (4 * j) = 6 := (udi_n (by omega)).trans udi_e
  have k1O : ∀ x, x ≠ 4 * i + 2 → x ≠ 4 * j → (gBr g i j).k1 x = g.k1 x := fun x q1 q2 => (udn_n q1).trans (udn_n q2)
  have k1N : (gBr g i j).k1 (4 * i + 2) = 4 * i + 2 := udn_e
  have k1J : (gBr g i j).k1 (4 * j) = 4 * j + 1 := (udn_n (by omega)).trans udn_e
  have k2O : ∀ x, x ≠ 4 * j → (gBr g i j).k2 x = g.k2 x := fun x q2 => udn_n q2
  have k2J : (gBr g i j).k2 (4 * j) = 4 * (i + 1) := udn_e
  have dO : ∀ x, x ≠ 4 * i + 2 → x ≠ 4 * j → (gBr g i j).D x = g.D x := fun x q1 q2 => (udn_n q1).trans (udn_n q2)
  have dN : (gBr g i j).D (4 * i + 2) = g.dp i := udn_e
  have dJ : (gBr g i j).D (4 * j) = g.dp j := (udn_n (by omega)).trans udn_e
  have dpO : ∀ m, m ≠ i + 1 → (gBr g i j).dp m = g.dp m := fun m q => udn_n q
  have dpN : (gBr g i j).dp (i + 1) = g.dp j := udn_e
  have M : Mo g (gBr g i j) τ τ' sc sc slo shi slo shi i (i + 1) i := by
    refine ⟨⟨by omega, fun _ => wN⟩, fun x hx => ?_, fun m hm => wO m (by omega), fun m hm => dpO m (by omega), ⟨ht.1, ht.2.1⟩, fun m hm => ⟨(ht4 m).2.2.2, ht5.2 m (by omega)⟩, fun m _ _ => ⟨(ht4 m).1, (ht4 m).2.1, (ht4 m).2.2.1⟩, Nat.le_refl _, fun _ _ => ⟨rfl, rfl⟩, fun x hx _ => k1O x (xN x hx).1 (xN x hx).2, fun q q1 q2 q3 q4 => ?_⟩
    · obtain ⟨a1, a2⟩ := xN x hx
      exact ⟨kM x hx, koO x a1 a2, rfl, k2O x a2, dO x a1 a2⟩
    · have := h.ow q1 q2 (Or.inr q3)
      omega
  have k1n : ∀ m, (gBr g i j).K (4 * m + 1) = true → g.K (4 * m + 1) = true := fun m z => kK _ z (by omega) (by omega)
  have k0n : ∀ m, m ≠ j → (gBr g i j).K (4 * m) = true → g.K (4 * m) = true := fun m q z => kK _ z (by omega) (by omega)
  have brJ : BrF (gBr g i j) τ' (i + 1) j i := Or.inr ⟨i, rfl, hji, by omega, wN, by rw [ht.1]; exact hc, kJ, koJ, k1J, k2J, by rw [dJ, dpO j (by omega)], by rw [dpN, dpO j (by omega)]⟩
  have ncO : ∀ y, y < 4 * j → NCg g y → NCg (gBr g i j) y := fun y hyj hy => hy.mo fun x z _ => by
    by_cases q1 : x = 4 * i + 2
    · right
      subst q1
      rw [koN, k1N]
      exact ⟨fun _ => Iff.rfl, fun w => by omega⟩
    · by_cases q2 : x = 4 * j
      · right
        subst q2
        rw [k1J, k2J]
        exact ⟨fun _ => ⟨fun _ => hyj, fun _ => by omega⟩, fun _ => ⟨fun _ => hyj, fun _ => by omega⟩⟩
      · exact Or.inl ⟨kK x z q1 q2, koO x q1 q2, k1O x q1 q2, k2O x q2⟩
  refine ⟨⟨by rw [ht.2.2]; omega, by rw [ht.2.2]; exact p2, p3, p4, by omega⟩, ⟨fun x z => ?_, fun m z => ?_, fun m z => ?_, fun m z => ?_, fun m z => ?_, fun m q => ?_, fun _ => ?_⟩, fun x z => ?_, fun k q1 q2 => ?_, ?_, fun l q => ?_, ?_, ?_, ?_⟩
  · by_cases q1 : x = 4 * i + 2
    · omega
    · by_cases q2 : x = 4 * j
      · omega
      · have := y0 x (kK x z q1 q2)
        omega
  · exact y1 m (kK _ z (by omega) (by omega))
  · by_cases e : m = j
    · subst e
      by_cases e0 : ll lv = -1
      · exact Or.inl (by omega)
      · obtain ⟨w1, w2, w3⟩ := v5 (m - 1) (by omega)
        exact Or.inr ⟨by rw [wO _ (by omega)]; exact w2, by rw [ht.1]; exact w3⟩
    · have z' := k0n m e z
      have := y0 _ z'
      obtain w | ⟨w1, w2⟩ := y2 m z'
      · exact Or.inl w
      · exact Or.inr ⟨by rw [wO _ (by omega)]; exact w1, by rw [ht.1]; exact w2⟩
  · have z' := k1n m z
    have := y0 _ z'
    rw [wO m (by omega)]
    exact y3 m z'
  · by_cases q : m = i
    · rw [q]
      exact Or.inl wN
    · rw [wO m q]
      exact y4 m (kK _ z (by omega) (by omega))
  · rw [wO m (by omega)]
    exact y5 m (by omega)
  · by_cases q : 0 = i
    · rw [q]
      exact wN
    · rw [wO 0 q]
      exact y6 (by omega)
  · by_cases q1 : x = 4 * i + 2
    · subst q1
      rw [koN, k1N]
      exact ⟨fun _ => by omega, fun w => by omega⟩
    · by_cases q2 : x = 4 * j
      · subst q2
        rw [k1J, k2J]
        exact ⟨fun _ => by omega, fun _ => by omega⟩
      · rw [koO x q1 q2, k1O x q1 q2, k2O x q2]
        obtain ⟨w1, w2⟩ := tg x (kK x z q1 q2)
        exact ⟨fun w => by have := w1 w; omega, fun w => by have := w2 w; omega⟩
  · by_cases e : k = i
    · subst e
      refine ⟨kN, by rw [dN, dpO k (by omega)]; exact Nat.le_refl _, fun z => absurd (k1n k z) (nK _ (by omega)), Or.inl ⟨by rw [ht.1]; exact hc, koN, by rw [dN, dpO k (by omega)], fun z => nK _ (by omega) (k1n k z), fun z => by omega, Or.inl ⟨ht3.1, fun z => nK _ (by omega) (k0n _ (by omega) z)⟩, Or.inl ⟨lv, Nat.le_refl _, ?_, ?_, ?_, k1N⟩⟩⟩
      · rw [ht5.1, hlo lv (Nat.le_refl _)]
      · rw [hlo lv (Nat.le_refl _)]
        omega
      · rw [hl2.1]
        exact Int.le_refl _
    · rw [wO k e] at q2
      have tkk := tk k (by omega) q2
      have kx := xN _ tkk.1
      refine TkF.mo M (by omega) e tkk (k1n k) (fun _ b => ?_) (fun _ ⟨l, b1, b2, b3, b4, b5⟩ => Or.inl ⟨l, b1, ?_, ?_, ?_, ?_⟩) (fun _ _ => k1O _ kx.1 kx.2) (fun ⟨l, b1, b2, b3, b4⟩ => ⟨l, b1, b2, by rw [hlo l b2]; exact b3, fun z => b4 (k1n k z)⟩)
      · by_cases ek : ll lv = k
        · rw [ht3.2 k ek, show k + 1 = j by omega]
          exact brJ
        · rw [ht2 k e ek]
          exact b.mo M (k0n _ (by omega))
      · rw [ht5.2 k e, hlo l b1]
        exact b2
      · rw [hlo l b1]
        exact b3
      · by_cases el : l = lv
        · rw [el, hl2.1]
          omega
        · rw [(hl l (by omega)).1]
          exact b4
      · rw [k1O _ kx.1 kx.2]
        exact b5
  · by_cases e0 : ll lv = -1
    · rw [htf.1 e0]
      have q : ∀ j', j' = j → BrF (gBr g i j) τ' (i + 1) j' i := fun j' e => by
        rw [e]
        exact brJ
      exact q 0 (by omega)
    · rw [htf.2 e0]
      exact br.mo M (k0n 0 (by omega))
  · by_cases e : l = lv
    · subst e
      obtain ⟨a1, a2, a3, a4⟩ := hl2
      unfold LvF
      rw [hlo l (Nat.le_refl _), a1, a2, a3, a4]
      have e1 : ((i : Int) + 1).toNat = i + 1 := by omega
      have e2 : (gBr g i j).dp (lo l + 1).toNat = g.dp (lo l + 1).toNat := dpO _ (by omega)
      rw [e1, e2, dpN]
      refine ⟨?_, ⟨by omega, by omega⟩, fun z => nK _ (by omega) (k0n _ (by omega) z), fun z => by omega, fun y z => ?_, v6, ⟨Or.inr rfl, ?_⟩, fun z => by omega, fun y b1 b2 b3 b4 => ?_, fun q b1 b2 b3 b4 => ?_, ⟨fun x z _ => ?_, fun o z => ⟨ncO _ (by omega) (v12 o z).1, fun w => (v12 o z).2 (k1n o w)⟩⟩, fun m => if m ≤ E l then js m else i + 1, ?_, ?_, fun m hm => ?_, fun y b1 b2 b3 b4 => ?_⟩
      · obtain v1 | ⟨w1, o, w2, w3, w4, w5⟩ := v1h.1
        · exact Or.inl v1
        · exact Or.inr ⟨w1, o, w2, by omega, by rw [wO o (by omega)]; exact w4, by rw [ht.1]; exact w5⟩
      · have : y = i := by omega
        subst this
        exact ⟨ht3.1, wN, Or.inr (by rw [ht.1]; exact hc)⟩
      · by_cases w : se l = 0 ∧ be l = 0
        · exact Or.inl (if_pos w)
        · exact Or.inr (if_neg w)
      · rw [ht.1] at b3
        by_cases yi : y = i
        · subst yi
          rw [dpO y (by omega)]
          refine ⟨by omega, fun w => ?_⟩
          by_cases w2 : se l = 0 ∧ be l = 0
          · omega
          · rw [if_neg w2] at w
            omega
        · rw [wO y yi] at b2
          rw [ht5.2 y yi] at b4
          rw [dpO y (by omega)]
          obtain ⟨u1, u2⟩ := v9 y (by omega) b2 b3 b4
          refine ⟨u1, fun w => ?_⟩
          by_cases w2 : se l = 0 ∧ be l = 0
          · exact u2 w2.1
          · rw [if_neg w2] at w
            omega
      · rw [ht.1] at b3
        have yi : q ≠ i := fun e => by rw [e] at b3; omega
        rw [wO q yi] at b2
        rw [ht5.2 q yi] at b4
        exact v10 q (by omega) b2 b3 b4
      · by_cases q1 : x = 4 * i + 2
        · subst q1
          rw [koN, k1N]
          exact ⟨fun _ => Iff.rfl, fun w => by omega⟩
        · by_cases q2 : x = 4 * j
          · subst q2
            rw [k1J, k2J]
            exact ⟨fun _ => ⟨fun w => by omega, fun w => by omega⟩, fun _ => ⟨fun w => by omega, fun w => by omega⟩⟩
          · rw [koO x q1 q2, k1O x q1 q2, k2O x q2]
            have hx := kK x z q1 q2
            have := y0 x hx
            obtain ⟨w1, w2⟩ := tg x hx
            exact ⟨fun w => by have := w1 w; omega, fun w => by have := w2 w; omega⟩
      · show (if 0 ≤ E l then js 0 else i + 1) = _
        rw [if_pos (Nat.zero_le _), j1]
      · show (if E l + 1 ≤ E l then js (E l + 1) else i + 1) = _
        rw [if_neg (by omega)]
      · show (if m ≤ E l then js m else i + 1) < (if m + 1 ≤ E l then js (m + 1) else i + 1) ∧ (if m + 1 ≤ E l then js (m + 1) else i + 1) ≤ i + 1 ∧ (gBr g i j).K (4 * (if m ≤ E l then js m else i + 1)) = true ∧ (gBr g i j).ko (4 * (if m ≤ E l then js m else i + 1)) = 6 ∧ (gBr g i j).k2 (4 * (if m ≤ E l then js m else i + 1)) = 4 * (if m + 1 ≤ E l then js (m + 1) else i + 1) ∧ (gBr g i j).W ((if m + 1 ≤ E l then js (m + 1) else i + 1) - 1) = 1 ∧ τ'.c ((if m + 1 ≤ E l then js (m + 1) else i + 1) - 1) = 124 ∧ τ'.ow ((if m + 1 ≤ E l then js (m + 1) else i + 1) - 1) = lo l
        rw [if_pos (show m ≤ E l by omega)]
        by_cases w : m + 1 ≤ E l
        · rw [if_pos w]
          obtain ⟨z1, z2, z3, z4, z5, z6, z7, z8⟩ := j3 m (by omega)
          obtain ⟨u1, u2⟩ := xN _ z3
          have hw : js (m + 1) - 1 ≠ i := by omega
          exact ⟨z1, by omega, kM _ z3, by rw [koO _ u1 u2]; exact z4, by rw [k2O _ u2]; exact z5, by rw [wO _ hw]; exact z6, by rw [ht.1]; exact z7, by rw [ht5.2 _ hw]; exact z8⟩
        · rw [if_neg w, show m = E l by omega, j2, Nat.add_sub_cancel]
          exact ⟨by omega, Nat.le_refl _, kJ, koJ, k2J, wN, by rw [ht.1]; exact hc, ht5.1⟩
      · rw [ht.1] at b3
        by_cases yi : y = i
        · subst yi
          refine ⟨E l, by omega, ?_⟩
          show (if E l + 1 ≤ E l then js (E l + 1) else y + 1) = y + 1
          rw [if_neg (by omega)]
        · rw [wO y yi] at b2
          rw [ht5.2 y yi] at b4
          obtain ⟨m, m1, m2⟩ := j4 y (by omega) b2 b3 b4
          refine ⟨m, by omega, ?_⟩
          show (if m + 1 ≤ E l then js (m + 1) else i + 1) = y + 1
          rw [if_pos (by omega), m2]
    · have hlv : l < lv := by omega
      have hL := lf l (by omega)
      obtain ⟨-, c2, c3, -, -, -, -, c8, -, -, ⟨c11, c12⟩, -⟩ := id hL
      have lt := h.lvLt2 hlv (Nat.le_refl _)
      have lo1 : -1 ≤ lo l := by
        obtain v1 | ⟨-, o, o1, -⟩ := hL.1 <;> omega
      obtain ⟨d1, d2, d3, d4⟩ := hl l hlv
      refine hL.mo M ⟨hlo l (by omega), d1, d2, d3, d4⟩ (k0n _ (by omega)) (fun z => htf.2 (by omega)) (fun y z => ht2 y (by omega) (by omega)) (fun _ => ?_) (fun y b1 b2 b3 b4 => ?_) (ncO _ (by omega) c11) (fun o z => ⟨ncO _ (by omega) (c12 o z).1, fun w => (c12 o z).2 (k1n o w)⟩)
      · obtain ⟨d1, d2⟩ := c8 hlv
        have d4 := (lf (l + 1) (by omega)).2.1
        rw [hlo (l + 1) (by omega), dpO _ (by omega)]
        exact ⟨d1, d2⟩
      · by_cases e : y = i
        · exfalso
          rw [e, ht5.1] at b4
          have := c2.1
          omega
        · omega
  · rw [hlo lv (Nat.le_refl _), hl2.2.1, dpN, dpO _ (by omega)]
    omega
  · have := cn_le1 (P := puK g) (P' := puK (gBr g i j)) (y := 4 * j) (fun x q z => by
      unfold puK at z ⊢
      rw [Bool.and_eq_true] at z ⊢
      by_cases q1 : x = 4 * i + 2
      · exfalso
        subst q1
        rw [koN] at z
        exact absurd z.2 (by decide)
      · rw [koO x q1 q] at z
        exact ⟨kK x z.1 q1 q, z.2⟩) 84
    rw [if_pos (by omega)] at this
    omega
  · show cn (kad (kad g.K (4 * j)) (4 * i + 2)) 84 ≤ _
    rw [cn_kad (by rw [kad_o (by omega)]; exact nK _ (by omega)), cn_kad v3, if_pos (by omega), if_pos (by omega)]
    omega
end Stb
