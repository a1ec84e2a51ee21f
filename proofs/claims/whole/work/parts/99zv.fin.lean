/-! From keys to the ghost -/
section Fin
variable {g : PG} {τ : Tx} {sc Z : Nat} {O F S lo hi : Nat → Int}
theorem FinS.lt84 (h : FinS g τ sc Z O F S lo hi) {x : Nat} (hx : g.K x = true) : x < 84 := by
  have := h.2.1.1 x hx
  have := h.1
  omega
theorem FinS.addr (h : FinS g τ sc Z O F S lo hi) {x : Nat} (hx : g.K x = true) : cn g.K x < cn g.K 84 ∧ cn g.K 84 ≤ 41 := by
  obtain ⟨-, -, -, -, -, ⟨-, r2, -⟩, -, hZ, -⟩ := id h
  have := cn_key hx (h.lt84 hx)
  omega
theorem FinS.rk (h : FinS g τ sc Z O F S lo hi) {x : Nat} (hx : g.K x = true) : (ghO g τ).rk (cn g.K x) = (cn g.K x : Int) - 41 * (g.D x : Int) := by
  unfold Gh.rk
  show (cn g.K x : Int) - 41 * ((g.D (kat g.K (cn g.K x) 84) : Nat) : Int) = _
  rw [kat_k hx 84 (h.lt84 hx)]
theorem FinS.lt (h : FinS g τ sc Z O F S lo hi) {x y : Nat} (hx : g.K x = true) (hy : g.K y = true) (hd : g.D y < g.D x ∨ (g.D y ≤ g.D x ∧ cn g.K x < cn g.K y)) : (ghO g τ).rk (cn g.K x) < (ghO g τ).rk (cn g.K y) := by
  rw [h.rk hx, h.rk hy]
  have := h.addr hx
  have := h.addr hy
  omega
/-- the place r of the text, in the code -/
theorem FinS.tgt (h : FinS g τ sc Z O F S lo hi) {r : Nat} (hr : r ≤ τ.n) (hw : r < τ.n → g.W r = 1) : ∃ x, g.K x = true ∧ cn g.K x = cn g.K (4 * r + 1) ∧ g.D x ≤ g.dp r := by
  obtain ⟨n20, ky, ⟨e1, e2, e3, e4, e5, e6, e7⟩, tk, -⟩ := id h
  by_cases hn : r < τ.n
  · obtain ⟨t1, t2, t3, -⟩ := tk r hn (hw hn)
    by_cases hk : g.K (4 * r + 1) = true
    · exact ⟨4 * r + 1, hk, rfl, by rw [t3 hk]; exact Nat.le_refl _⟩
    · exact ⟨4 * r + 2, t1, cn_f hk, t2⟩
  · have : r = τ.n := by omega
    subst this
    exact ⟨4 * τ.n + 2, e1, cn_f e5, by rw [e3]; exact Nat.zero_le _⟩
theorem FinS.tgB (h : FinS g τ sc Z O F S lo hi) {j : Nat} {nb : Int} (hr : j ≤ τ.n) (hw : j < τ.n → g.W j = 1) (hb : BrF g τ τ.n j nb) : ∃ x, g.K x = true ∧ cn g.K x = cn g.K (4 * j) ∧ g.D x ≤ g.dp j := by
  obtain ⟨-, hk⟩ | ⟨y, -, -, -, -, -, hk, -, -, -, hd, -⟩ := hb
  · obtain ⟨x, a, b, c⟩ := h.tgt hr hw
    exact ⟨x, a, b.trans (cn_f hk), c⟩
  · exact ⟨4 * j, hk, rfl, by rw [hd]; exact Nat.le_refl _⟩
theorem FinS.at (h : FinS g τ sc Z O F S lo hi) {x : Nat} (hx : g.K x = true) : O (cn g.K x) = g.ko x ∧ (g.ko x = 6 → F (cn g.K x) = (cn g.K (g.k1 x) : Int) - cn g.K x ∧ S (cn g.K x) = (cn g.K (g.k2 x) : Int) - cn g.K x) ∧ (g.ko x = 7 → F (cn g.K x) = (cn g.K (g.k1 x) : Int) - cn g.K x) ∧ (g.ko x ≠ 6 → g.ko x ≠ 7 → F (cn g.K x) = g.kf x) := h.2.2.2.2.2.1.2.2 x hx (fun z => z)
/-- a split by keys -/
theorem FinS.sp (h : FinS g τ sc Z O F S lo hi) {x y w a b : Nat} (hx : g.K x = true) (ho : g.ko x = 6) (h1 : g.k1 x = a) (h2 : g.k2 x = b) (hy : g.K y = true) (ey : cn g.K y = cn g.K a) (hw : g.K w = true) (ew : cn g.K w = cn g.K b) (dy : g.D y < g.D x ∨ (g.D y ≤ g.D x ∧ cn g.K x < cn g.K y)) (dw : g.D w < g.D x ∨ (g.D w ≤ g.D x ∧ cn g.K x < cn g.K w)) : SPc (O, F, S, lo, hi) (ghO g τ) (cn g.K x) (cn g.K a) (cn g.K b) := by
  obtain ⟨r1, r2, -, -⟩ := h.at hx
  obtain ⟨r3, r4⟩ := r2 ho
  rw [h1] at r3
  rw [h2] at r4
  refine ⟨r1.trans ho, ?_, ?_, ?_, ?_, (h.addr hx).1, ?_, ?_⟩
  · show (cn g.K x : Int) + F (cn g.K x) = _
    rw [r3]
    omega
  · show (cn g.K x : Int) + S (cn g.K x) = _
    rw [r4]
    omega
  · rw [← ey]
    exact h.lt hx hy dy
  · rw [← ew]
    exact h.lt hx hw dw
  · rw [← ey]
    exact (h.addr hy).1
  · rw [← ew]
    exact (h.addr hw).1
theorem FinS.jp (h : FinS g τ sc Z O F S lo hi) {x y a : Nat} (hx : g.K x = true) (ho : g.ko x = 7) (h1 : g.k1 x = a) (hy : g.K y = true) (ey : cn g.K y = cn g.K a) (dy : g.D y < g.D x ∨ (g.D y ≤ g.D x ∧ cn g.K x < cn g.K y)) : JPc (O, F, S, lo, hi) (ghO g τ) (cn g.K x) (cn g.K a) := by
  obtain ⟨r1, -, r2, -⟩ := h.at hx
  have r3 := r2 ho
  rw [h1] at r3
  refine ⟨r1.trans ho, ?_, ?_, (h.addr hx).1, ?_⟩
  · show (cn g.K x : Int) + F (cn g.K x) = _
    rw [r3]
    omega
  · rw [← ey]
    exact h.lt hx hy dy
  · rw [← ey]
    exact (h.addr hy).1
theorem FinS.ge (h : FinS g τ sc Z O F S lo hi) {x y q : Nat} (hx : g.K x = true) (ho : g.ko x = 8) (hf : g.kf x = q) (hy : g.K y = true) (ey : cn g.K y = cn g.K x + 1) (dy : g.D y ≤ g.D x) : GEc (O, F, S, lo, hi) (ghO g τ) (cn g.K x) q := by
  obtain ⟨r1, -, -, r2⟩ := h.at hx
  refine ⟨r1.trans ho, (r2 (by omega) (by omega)).trans hf, ?_, ?_⟩
  · rw [← ey]
    exact h.lt hx hy (Or.inr ⟨dy, by omega⟩)
  · show cn g.K x + 1 < cn g.K 84
    rw [← ey]
    exact (h.addr hy).1
theorem FinS.br (h : FinS g τ sc Z O F S lo hi) {j : Nat} {nb : Int} (hr : j ≤ τ.n) (hw : j < τ.n → g.W j = 1) (hb : BrF g τ τ.n j nb) : BRc (O, F, S, lo, hi) τ (ghO g τ) j nb := by
  obtain ⟨n20, ky, ⟨e1, e2, e3, e4, e5, e6, e7⟩, tk, -⟩ := id h
  obtain ⟨x, x1, x2, x3⟩ := h.tgt hr hw
  obtain ⟨y, y1, y2, y3⟩ := h.tgB hr hw hb
  have vj : g.W j = 1 ∧ j ≤ τ.n := by
    by_cases z : j < τ.n
    · exact ⟨hw z, hr⟩
    · have : j = τ.n := by omega
      rw [this]
      exact ⟨e4, Nat.le_refl _⟩
  refine ⟨vj, ?_, ?_, ?_⟩
  · show cn g.K (4 * j) < _
    rw [← y2]
    exact (h.addr y1).1
  · show cn g.K (4 * j + 1) < _
    rw [← x2]
    exact (h.addr x1).1
  obtain ⟨b1, b2⟩ | ⟨q, b1, b2, b3, b4, b5, b6, b7, b8, b9, b10, b11⟩ := id hb
  · exact Or.inl ⟨by omega, cn_f b2⟩
  · refine Or.inr ⟨q, b1, b3, b5, ⟨b4, by omega⟩, ?_⟩
    obtain ⟨t1, t2, t3, t4⟩ := tk q b3 b4
    have tb : (q + 1 < τ.n → g.W (q + 1) = 1) ∧ BrF g τ τ.n (q + 1) (τ.ba q) := by
      obtain ⟨-, -, -, -, u1, u2, -⟩ | ⟨u, -⟩ | ⟨u, -⟩ | ⟨u, -⟩ := t4
      · exact ⟨u1, u2⟩
      · omega
      · omega
      · omega
    obtain ⟨w, w1, w2, w3⟩ := h.tgB (j := q + 1) (by omega) tb.1 tb.2
    have k1 : cn g.K (4 * j + 1) = cn g.K (4 * j) + 1 := cn_t b6
    have k2 : cn g.K (4 * j + 1) ≤ cn g.K (4 * (q + 1)) := cn_le2 (by omega)
    exact h.sp b6 b7 b8 b9 x1 x2 w1 w2 (Or.inr ⟨by omega, by omega⟩) (Or.inr ⟨by omega, by omega⟩)
/-- behind the atom of a piece, where a quantifier's own instruction stands -/
theorem FinS.gapA (h : FinS g τ sc Z O F S lo hi) {b r : Nat} (hb0 : 0 < b) (hbr : b < r) (hm : ∀ m, b ≤ m → m < r → g.W m ≠ 1 ∧ (g.W m = 2 → m = b)) (hb1 : g.W (b - 1) = 1 → τ.c (b - 1) ≠ 40 ∧ τ.c (b - 1) ≠ 124) : cn g.K (4 * b) = cn g.K (4 * b + 2) := by
  obtain ⟨-, ⟨-, -, y2, y3, -⟩, -⟩ := h
  rw [show 4 * b + 2 = 4 * b + 1 + 1 by omega, cn_f (fun z => (hm b (Nat.le_refl _) hbr).1 (y3 b z)), cn_f (fun z => by
    obtain z | z := y2 b z
    · omega
    · have := hb1 z.1
      omega)]
theorem FinS.gapC (h : FinS g τ sc Z O F S lo hi) {b r : Nat} (hb0 : 0 < b) (hbr : b ≤ r) (hm : ∀ m, b ≤ m → m < r → g.W m ≠ 1 ∧ (g.W m = 2 → m = b)) (hb1 : g.W (b - 1) = 1 → τ.c (b - 1) ≠ 40 ∧ τ.c (b - 1) ≠ 124) (hr1 : g.W (r - 1) = 1 → τ.c (r - 1) ≠ 40 ∧ τ.c (r - 1) ≠ 124) (hb2 : b < r → g.W b = 0) : cn g.K (4 * r + 1) = cn g.K (4 * b) := by
  obtain ⟨-, ⟨-, y1, y2, y3, y4, -⟩, -⟩ := h
  refine cn_gap2 (by omega) fun x x1 x2 hx => ?_
  obtain ⟨m, hx4⟩ : ∃ m, x = 4 * m ∨ x = 4 * m + 1 ∨ x = 4 * m + 2 ∨ x = 4 * m + 3 := ⟨x / 4, by omega⟩
  obtain e | e | e | e := hx4
  · subst e
    obtain z | ⟨z1, z2⟩ := y2 m hx
    · omega
    · by_cases q1 : m = b
      · subst q1
        have := hb1 z1
        omega
      · by_cases q2 : m = r
        · subst q2
          have := hr1 z1
          omega
        · exact (hm (m - 1) (by omega) (by omega)).1 z1
  · subst e
    exact (hm m (by omega) (by omega)).1 (y3 m hx)
  · subst e
    obtain z | z := y4 m hx
    · exact (hm m (by omega) (by omega)).1 z
    · have e := (hm m (by omega) (by omega)).2 z
      subst e
      have := hb2 (by omega)
      omega
  · subst e
    exact y1 m hx
/-- a piece: what stands behind its atom, and how its quantifier leads -/
theorem FinS.pc (h : FinS g τ sc Z O F S lo hi) {k b e : Nat} (hk : g.K (4 * k + 2) = true) (hd : g.D (4 * k + 2) = g.dp k) (hd1 : g.K (4 * k + 1) = true → g.D (4 * k + 1) = g.dp k) (hp : PcF g τ τ.n k b e) (hb1 : g.W (b - 1) = 1 → τ.c (b - 1) ≠ 40 ∧ τ.c (b - 1) ≠ 124) (hlt : cn g.K (4 * k + 2) < cn g.K (4 * b)) :
    (∃ r : Nat, τ.pe k = r ∧ (ghO g τ).V r ∧ QUc (O, F, S, lo, hi) τ (ghO g τ) k r) ∧ ∃ x, g.K x = true ∧ cn g.K x = cn g.K (4 * b) ∧ g.D x ≤ g.dp k + e := by
  obtain ⟨n20, ky, ⟨e1, e2, e3, e4, e5, e6, e7⟩, tk, -⟩ := id h
  obtain ⟨r, p1, p2, p3, p4, p5, p6, p7, p8, p9, p10, p11, p12⟩ := hp
  have vr : g.W r = 1 ∧ r ≤ τ.n := by
    by_cases z : r < τ.n
    · exact ⟨p6 z, p5⟩
    · have : r = τ.n := by omega
      rw [this]
      exact ⟨e4, Nat.le_refl _⟩
  obtain ⟨x, x1, x2, x3⟩ := h.tgt p5 p6
  have eaf : (ghO g τ).af k = cn g.K (4 * b) := by
    show cn g.K (4 * (τ.ae k).toNat) = _
    rw [p1, Int.toNat_natCast]
  have lr : cn g.K (4 * b) ≤ cn g.K (4 * r + 1) := cn_le2 (by omega)
  have kk : ∀ q, g.K q = true → q < 4 * k + 2 → cn g.K q < cn g.K (4 * k + 2) := fun q h1 h2 => cn_key h1 h2
  obtain ⟨q0, q1, q2⟩ | ⟨q0, q1, q2, q3, q4, q5, q6, q7, q8, q9⟩ | ⟨q0, q1, q2, q3, q4, q5, q6⟩ | ⟨q0, q1, q2, q3, q4, q5, q6⟩ := p12
  · -- none
    subst q1
    have gC := h.gapC (by omega) (Nat.le_refl b) p7 hb1 p8 (fun z => by omega)
    refine ⟨⟨b, p2, vr, Or.inl ⟨q0, cn_f q2, eaf.trans gC.symm⟩⟩, x, x1, x2.trans gC, by omega⟩
  · -- star
    have gA := h.gapA (by omega) q1 p7 hb1
    have c1 : cn g.K (4 * k + 2) = cn g.K (4 * k + 1) + 1 := cn_t q3
    refine ⟨⟨r, p2, vr, ?_⟩, 4 * b + 2, q6, gA.symm, ?_⟩
    · have jp : JPc (O, F, S, lo, hi) (ghO g τ) ((ghO g τ).af k) ((ghO g τ).sq k) := by
        rw [eaf, gA]
        exact h.jp q6 q7 q8 q3 rfl (Or.inl (by rw [hd1 q3]; omega))
      obtain ⟨z1, z2, z3⟩ | ⟨z1, z2, z3⟩ := q5
      · exact Or.inr (Or.inl ⟨z1, h.sp q3 q4 z2 z3 hk rfl x1 x2 (Or.inr ⟨by rw [hd, hd1 q3]; exact Nat.le_refl _, by omega⟩) (Or.inr ⟨by rw [hd1 q3]; omega, by omega⟩), jp⟩)
      · exact Or.inr (Or.inr (Or.inl ⟨z1, h.sp q3 q4 z2 z3 x1 x2 hk rfl (Or.inr ⟨by rw [hd1 q3]; omega, by omega⟩) (Or.inr ⟨by rw [hd, hd1 q3]; exact Nat.le_refl _, by omega⟩), jp⟩))
    · have : e = 1 := by
        by_cases z : e = 0
        · have := p11 z
          omega
        · omega
      omega
  · -- plus
    have gA := h.gapA (by omega) q1 p7 hb1
    have ne1 : e = 1 := by
      by_cases z : e = 0
      · have := p11 z
        omega
      · omega
    have c2 : cn g.K (4 * b + 2) + 1 ≤ cn g.K (4 * r + 1) := cn_key q3 (by omega)
    refine ⟨⟨r, p2, vr, ?_⟩, 4 * b + 2, q3, gA.symm, by omega⟩
    have tq : (ghO g τ).ta k = (ghO g τ).sq k := cn_f q2
    obtain ⟨z1, z2, z3⟩ | ⟨z1, z2, z3⟩ := q6
    · refine Or.inr (Or.inr (Or.inr (Or.inl ⟨z1, tq, ?_⟩)))
      rw [eaf, gA]
      exact h.sp q3 q4 z2 z3 hk rfl x1 x2 (Or.inl (by omega)) (Or.inr ⟨by omega, by omega⟩)
    · refine Or.inr (Or.inr (Or.inr (Or.inr (Or.inl ⟨z1, tq, ?_⟩))))
      rw [eaf, gA]
      exact h.sp q3 q4 z2 z3 x1 x2 hk rfl (Or.inr ⟨by omega, by omega⟩) (Or.inl (by omega))
  · -- question mark
    have gC := h.gapC (by omega) p4 p7 hb1 p8 (fun _ => q5)
    have c1 : cn g.K (4 * k + 2) = cn g.K (4 * k + 1) + 1 := cn_t q3
    refine ⟨⟨r, p2, vr, ?_⟩, x, x1, x2.trans gC, by omega⟩
    obtain ⟨z1, z2, z3⟩ | ⟨z1, z2, z3⟩ := q6
    · exact Or.inr (Or.inr (Or.inr (Or.inr (Or.inr (Or.inl ⟨z1, h.sp q3 q4 z2 z3 hk rfl x1 x2 (Or.inr ⟨by rw [hd, hd1 q3]; exact Nat.le_refl _, by omega⟩) (Or.inr ⟨by rw [hd1 q3]; omega, by omega⟩), eaf.trans gC.symm⟩)))))
    · exact Or.inr (Or.inr (Or.inr (Or.inr (Or.inr (Or.inr ⟨z1, h.sp q3 q4 z2 z3 x1 x2 hk rfl (Or.inr ⟨by rw [hd1 q3]; omega, by omega⟩) (Or.inr ⟨by rw [hd, hd1 q3]; exact Nat.le_refl _, by omega⟩), eaf.trans gC.symm⟩)))))
end Fin
