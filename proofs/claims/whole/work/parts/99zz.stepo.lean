/-! A group opens -/
theorem cn_le1 {P P' : Nat → Bool} {y : Nat} (h : ∀ x, x ≠ y → P' x = true → P x = true) : ∀ m, cn P' m ≤ cn P m + (if y < m then 1 else 0) := by
  intro m
  induction m with
  | zero => exact Nat.zero_le _
  | succ m ih =>
    show cn P' m + (if P' m = true then 1 else 0) ≤ cn P m + (if P m = true then 1 else 0) + _
    by_cases e : m = y
    · subst e
      rw [if_pos (show m < m + 1 by omega)]
      rw [if_neg (Nat.lt_irrefl m)] at ih
      split <;> split <;> omega
    · by_cases hm : y < m
      · rw [if_pos hm] at ih
        rw [if_pos (show y < m + 1 by omega)]
        by_cases p : P' m = true
        · rw [if_pos p, if_pos (h m e p)]
          omega
        · rw [if_neg p]
          split <;> omega
      · rw [if_neg hm] at ih
        rw [if_neg (show ¬ y < m + 1 by omega)]
        by_cases p : P' m = true
        · rw [if_pos p, if_pos (h m e p)]
          omega
        · rw [if_neg p]
          split <;> omega
section Sto
variable {g : PG} {τ τ' : Tx} {sc : Nat} {slo shi : Nat → Int} {i lv gr : Nat} {lo ll be se lo' ll' be' se' : Nat → Int} {E E' : Nat → Nat}
theorem PIv.ow (h : PIv g τ sc slo shi i lv gr lo ll be se E) {k : Nat} (hk : k < i) (hw : g.W k = 1) (hc : τ.c k = 124 ∨ τ.c k = 41) : τ.ow k < k := by
  obtain ⟨-, -, -, t4⟩ := h.2.2.2.1 k hk hw
  obtain ⟨z1, z2, z3, z4, z5, z6, z7⟩ | ⟨z1, z2, z3, o, q, z4, z5, z6, z7, z8⟩ | ⟨z1, -⟩ | ⟨z1, z2, -⟩ := t4
  · obtain ⟨l, -, y1, y2, -⟩ | ⟨o, q, y1, y2, -⟩ := z7
    · omega
    · omega
  · have := z4.1
    omega
  · omega
  · omega
def gOp (g : PG) (i gr : Nat) : PG := (kad g.K (4 * i + 2), udn g.W i 1, udi g.ko (4 * i + 2) 8, udi g.kf (4 * i + 2) (2 * gr), g.k1, g.k2, udn g.D (4 * i + 2) (g.dp i), udn g.dp (i + 1) (g.dp i))
theorem st_open (h : PIv g τ sc slo shi i lv gr lo ll be se E) (hi : i < τ.n) (hc : τ.c i = 40) (hgr : gr < 3) (ht : τ'.c = τ.c ∧ τ'.en = τ.en ∧ τ'.n = τ.n ∧ τ'.fb = τ.fb) (ht2 : ∀ m, m ≠ i → τ'.go m = τ.go m ∧ τ'.ba m = τ.ba m) (ht3 : τ'.go i = gr ∧ τ'.ba i = -1) (ht4 : ∀ m, τ'.qu m = τ.qu m ∧ τ'.ae m = τ.ae m ∧ τ'.pe m = τ.pe m ∧ τ'.ow m = τ.ow m)
    (hl : ∀ l, l ≤ lv → lo' l = lo l ∧ ll' l = ll l ∧ be' l = be l ∧ se' l = se l ∧ E' l = E l) (hl2 : lo' (lv + 1) = i ∧ ll' (lv + 1) = i ∧ be' (lv + 1) = 1 ∧ se' (lv + 1) = 0 ∧ E' (lv + 1) = 0) : PIv (gOp g i gr) τ' sc slo shi (i + 1) (lv + 1) (gr + 1) lo' ll' be' se' E' := by
  obtain ⟨⟨p1, p2, p3, p4, p5⟩, ⟨y0, y1, y2, y3, y4, y5, y6⟩, tg, tk, br, lf, dpe, pc, zc⟩ := id h
  have nK : ∀ x, 4 * i ≤ x → g.K x ≠ true := fun x q z => by have := y0 x z; omega
  have kK : ∀ x, (gOp g i gr).K x = true → x ≠ 4 * i + 2 → g.K x = true := fun x z q => by
    have e : kad g.K (4 * i + 2) x = g.K x := kad_o q
    exact e.symm.trans z
  have kN : (gOp g i gr).K (4 * i + 2) = true := kad_y
  have kM : ∀ x, g.K x = true → (gOp g i gr).K x = true := fun x z => kad_k z
  have wO : ∀ m, m ≠ i → (gOp g i gr).W m = g.W m := fun m q => udn_n q
  have wN : (gOp g i gr).W i = 1 := udn_e
  have koO : ∀ x, x ≠ 4 * i + 2 → (gOp g i gr).ko x = g.ko x := fun x q => udi_n q
  have koN : (gOp g i gr).ko (4 * i + 2) = 8 := udi_e
  have dpO : ∀ m, m ≠ i + 1 → (gOp g i gr).dp m = g.dp m := fun m q => udn_n q
  have dpN : (gOp g i gr).dp (i + 1) = g.dp i := udn_e
  have M : Mo g (gOp g i gr) τ τ' sc sc slo shi slo shi i (i + 1) i := by
    refine ⟨⟨by omega, fun _ => wN⟩, fun x hx => ?_, fun m hm => wO m (by omega), fun m hm => dpO m (by omega), ⟨ht.1, ht.2.1⟩, fun m hm => ⟨(ht2 m (by omega)).1, (ht4 m).2.2.2⟩, fun m _ _ => ⟨(ht4 m).1, (ht4 m).2.1, (ht4 m).2.2.1⟩, Nat.le_refl _, fun _ _ => ⟨rfl, rfl⟩, fun _ _ _ => rfl, fun q q1 q2 q3 q4 => ?_⟩
    · have : x ≠ 4 * i + 2 := by have := y0 x hx; omega
      exact ⟨kM x hx, koO x this, udi_n this, rfl, udn_n this⟩
    · have := h.ow q1 q2 (Or.inr q3)
      omega
  have k1n : ∀ m, (gOp g i gr).K (4 * m + 1) = true → g.K (4 * m + 1) = true := fun m z => kK _ z (by omega)
  have k0n : ∀ m, (gOp g i gr).K (4 * m) = true → g.K (4 * m) = true := fun m z => kK _ z (by omega)
  have ncO : ∀ y, NCg g y → NCg (gOp g i gr) y := fun y hy => hy.mo fun x z _ => by
    by_cases q : x = 4 * i + 2
    · right
      subst q
      exact ⟨fun w => by rw [koN] at w; omega, fun w => by rw [koN] at w; omega⟩
    · exact Or.inl ⟨kK x z q, koO x q, rfl, rfl⟩
  refine ⟨⟨by rw [ht.2.2.1]; omega, by rw [ht.2.2.1]; exact p2, by omega, by omega, by omega⟩, ⟨fun x z => ?_, fun m z => ?_, fun m z => ?_, fun m z => ?_, fun m z => ?_, fun m q => ?_, fun _ => ?_⟩, fun x z => ?_, fun k q1 q2 => ?_, ?_, fun l q => ?_, ?_, ?_, ?_⟩
  · by_cases q : x = 4 * i + 2
    · omega
    · have := y0 x (kK x z q)
      omega
  · exact y1 m (kK _ z (by omega))
  · have z' := k0n m z
    have := y0 _ z'
    obtain w | ⟨w1, w2⟩ := y2 m z'
    · exact Or.inl w
    · refine Or.inr ⟨by rw [wO _ (by omega)]; exact w1, by rw [ht.1]; exact w2⟩
  · have z' := k1n m z
    have := y0 _ z'
    rw [wO m (by omega)]
    exact y3 m z'
  · by_cases q : m = i
    · rw [q]
      exact Or.inl wN
    · rw [wO m q]
      exact y4 m (kK _ z (by omega))
  · rw [wO m (by omega)]
    exact y5 m (by omega)
  · by_cases q : 0 = i
    · rw [q]
      exact wN
    · rw [wO 0 q]
      exact y6 (by omega)
  · by_cases q : x = 4 * i + 2
    · subst q
      exact ⟨fun w => by rw [koN] at w; omega, fun w => by rw [koN] at w; omega⟩
    · rw [koO x q]
      obtain ⟨w1, w2⟩ := tg x (kK x z q)
      refine ⟨fun w => ?_, fun w => ?_⟩
      · have : g.k1 x ≤ 4 * i + 1 := w1 w
        show g.k1 x ≤ _
        omega
      · have : g.k2 x ≤ 4 * i + 1 := w2 w
        show g.k2 x ≤ _
        omega
  · by_cases e : k = i
    · subst e
      refine ⟨kN, ?_, fun z => absurd (k1n k z) (nK _ (by omega)), Or.inr (Or.inr (Or.inl ⟨by rw [ht.1]; exact hc, koN, ?_, ⟨gr, ht3.1, hgr, udi_e⟩, fun z => by omega, Or.inl ⟨ht3.2, fun z => nK _ (by omega) (k0n _ z)⟩, ?_, Or.inl ⟨lv + 1, by omega, Nat.le_refl _, hl2.1, fun z => nK _ (by omega) (k1n k z)⟩⟩))⟩
      · rw [dpO k (by omega)]
        exact Nat.le_of_eq udn_e
      · rw [dpO k (by omega)]
        exact udn_e
      · rw [dpN, dpO k (by omega)]
    · rw [wO k e] at q2
      refine TkF.mo M (by omega) e (tk k (by omega) q2) (k1n k) (fun _ b => by rw [(ht2 k e).2]; exact b.mo M (k0n _)) (fun _ ⟨l, b1, b2, b3, b4, b5⟩ => Or.inl ⟨l, by omega, ?_, ?_, ?_, b5⟩) (fun _ _ => rfl) (fun ⟨l, b1, b2, b3, b4⟩ => ⟨l, b1, by omega, by rw [(hl l b2).1]; exact b3, fun z => b4 (k1n k z)⟩)
      · rw [(ht4 k).2.2.2, (hl l b1).1]
        exact b2
      · rw [(hl l b1).1]
        exact b3
      · rw [(hl l b1).2.1]
        exact b4
  · rw [ht.2.2.2]
    exact br.mo M (k0n 0)
  · by_cases e : l = lv + 1
    · subst e
      obtain ⟨a1, a2, a3, a4, a5⟩ := hl2
      unfold LvF
      rw [a1, a2, a3, a4, a5]
      have e1 : ((i : Int) + 1).toNat = i + 1 := by omega
      rw [e1]
      refine ⟨Or.inr ⟨by omega, i, rfl, by omega, wN, by rw [ht.1]; exact hc⟩, ⟨Int.le_refl _, by omega⟩, fun z => nK _ (by omega) (k0n _ z), fun z => by omega, fun y z => ?_, rfl, ⟨Or.inr rfl, Or.inl rfl⟩, fun z => by omega, fun y b1 b2 b3 b4 => ?_, fun q b1 b2 b3 b4 => ?_, ⟨fun x z _ => ?_, fun o z => ⟨fun x w _ => ?_, ?_⟩⟩, fun _ => i + 1, rfl, rfl, fun m z => by omega, fun y b1 b2 b3 b4 => ?_⟩
      · have : y = i := by omega
        subst this
        exact ⟨ht3.2, wN, Or.inl (by rw [ht.1]; exact hc)⟩
      · exfalso
        rw [ht.1] at b3
        have yi : y ≠ i := fun e => by rw [e] at b3; omega
        rw [wO y yi] at b2
        rw [(ht4 y).2.2.2] at b4
        have := h.ow (show y < i by omega) b2 (Or.inl b3)
        omega
      · rw [ht.1] at b3
        have yi : q ≠ i := fun e => by rw [e] at b3; omega
        rw [wO q yi] at b2
        rw [(ht4 q).2.2.2] at b4
        have := h.ow (show q < i by omega) b2 (Or.inr b3)
        omega
      · by_cases q : x = 4 * i + 2
        · subst q
          exact ⟨fun w => by rw [koN] at w; omega, fun w => by rw [koN] at w; omega⟩
        · rw [koO x q]
          have hx := kK x z q
          have := y0 x hx
          obtain ⟨w1, w2⟩ := tg x hx
          refine ⟨fun w => ?_, fun w => ?_⟩
          · have : g.k1 x ≤ 4 * i + 1 := w1 w
            show 4 * (i + 1) < g.k1 x ↔ _
            omega
          · have : g.k2 x ≤ 4 * i + 1 := w2 w
            show 4 * (i + 1) < g.k2 x ↔ _
            omega
      · have : o = i := by omega
        subst this
        by_cases q : x = 4 * o + 2
        · subst q
          exact ⟨fun w => by rw [koN] at w; omega, fun w => by rw [koN] at w; omega⟩
        · rw [koO x q]
          have hx := kK x w q
          have := y0 x hx
          obtain ⟨w1, w2⟩ := tg x hx
          refine ⟨fun w => ?_, fun w => ?_⟩
          · have : g.k1 x ≤ 4 * o + 1 := w1 w
            show 4 * o + 1 < g.k1 x ↔ _
            omega
          · have : g.k2 x ≤ 4 * o + 1 := w2 w
            show 4 * o + 1 < g.k2 x ↔ _
            omega
      · have : o = i := by omega
        subst this
        exact fun w => nK _ (by omega) (k1n o w)
      · exfalso
        rw [ht.1] at b3
        have yi : y ≠ i := fun e => by rw [e] at b3; omega
        rw [wO y yi] at b2
        rw [(ht4 y).2.2.2] at b4
        have := h.ow (show y < i by omega) b2 (Or.inl b3)
        omega
    · have hlv : l ≤ lv := by omega
      have hL := lf l hlv
      obtain ⟨-, c2, c3, -, -, -, -, c8, -, -, ⟨c11, c12⟩, -⟩ := id hL
      refine hL.mo M (hl l hlv) (k0n _) (fun _ => ht.2.2.2) (fun y z => (ht2 y (by omega)).2) (fun _ => ?_) (fun y b1 b2 b3 b4 => ?_) (ncO _ c11) (fun o z => ⟨ncO _ (c12 o z).1, fun w => (c12 o z).2 (k1n o w)⟩)
      · by_cases q : l < lv
        · obtain ⟨d1, d2⟩ := c8 q
          obtain ⟨d3, -⟩ := (lf (l + 1) (by omega)).2
          have d4 := (lf (l + 1) (by omega)).2.1
          rw [(hl (l + 1) (by omega)).1, dpO _ (by omega)]
          exact ⟨d1, d2⟩
        · have : l = lv := by omega
          subst this
          rw [hl2.1, show ((i : Nat) : Int).toNat = i from Int.toNat_natCast i, dpO i (by omega)]
          exact ⟨c2.2, dpe⟩
      · by_cases e : y = i
        · rw [e] at b3
          omega
        · omega
  · rw [hl2.1, hl2.2.2.1, show ((i : Int) + 1).toNat = i + 1 by omega]
    omega
  · have := cn_le1 (P := puK g) (P' := puK (gOp g i gr)) (y := 4 * i + 2) (fun x q z => by
      unfold puK at z ⊢
      rw [Bool.and_eq_true] at z ⊢
      rw [koO x q] at z
      exact ⟨kK x z.1 q, z.2⟩) 84
    rw [if_pos (by omega)] at this
    omega
  · show cn (kad g.K (4 * i + 2)) 84 ≤ _
    rw [cn_kad (nK _ (by omega)), if_pos (by omega)]
    omega
end Sto
