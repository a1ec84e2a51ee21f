/-! The ghost is right -/
section Fin2
variable {g : PG} {τ : Tx} {sc Z : Nat} {O F S lo hi : Nat → Int}
/-- the end of a closed group -/
theorem FinS.grp (h : FinS g τ sc Z O F S lo hi) {o q : Nat} (hg : GrF g τ τ.n o q) : ∃ a : Nat, τ.go o = a ∧ a < 3 ∧ g.K (4 * q + 2) = true ∧ GEc (O, F, S, lo, hi) (ghO g τ) (cn g.K (4 * q + 2)) (2 * a + 1) ∧ (ghO g τ).af o = cn g.K (4 * q + 2) + 1 ∧ (ghO g τ).V o ∧ isE τ.c o = 0 := by
  obtain ⟨n20, ky, ⟨e1, e2, e3, e4, e5, e6, e7⟩, tk, -⟩ := id h
  obtain ⟨g1, g2, g3, g4, g5, g6, g7, g8, g9⟩ := hg
  obtain ⟨t1, t2, t3, t4⟩ := tk q g2 g5
  obtain ⟨u1, u2, u3, u4⟩ := tk o (by omega) g3
  have cq : cn g.K (4 * (q + 1)) = cn g.K (4 * q + 2) + 1 := by
    rw [show 4 * (q + 1) = 4 * q + 2 + 1 + 1 by omega, cn_f (ky.2.1 q), cn_t t1]
  have eaf : (ghO g τ).af o = cn g.K (4 * q + 2) + 1 := by
    show cn g.K (4 * (τ.ae o).toNat) = _
    rw [g7, Int.toNat_natCast, cq]
  obtain ⟨z, -⟩ | ⟨-, z2, z3, o', a, z4, z5, z6, z7, z8⟩ | ⟨z, -⟩ | ⟨-, z, -⟩ := t4
  · omega
  · have : o' = o := by omega
    subst this
    obtain ⟨v, -⟩ | ⟨v, -⟩ | ⟨-, v2, v3, -, -, -, -, v8⟩ | ⟨-, -, v, -⟩ := u4
    · omega
    · omega
    · obtain v8 | ⟨q', e, v9, v10, v11⟩ := v8
      · exact absurd v8 (fun z => z)
      · have : q' = q := by
          have := v10.2.2.2.2.2.2.1
          omega
        subst this
        have hpc := h.pc u1 v3 u3 v9 (by
          rw [Nat.add_sub_cancel]
          intro _
          omega) (by rw [cq]; have := cn_key u1 (show 4 * o' + 2 < 4 * q' + 2 by omega); omega)
        obtain ⟨x, x1, x2, x3⟩ := hpc.2
        refine ⟨a, z6, z7, t1, h.ge t1 z2 (by rw [z8]; omega) x1 (x2.trans cq) (by omega), eaf, ⟨g3, by omega⟩, ?_⟩
        unfold isE
        rw [if_neg (by omega)]
    · omega
  · omega
  · omega
theorem FinS.ok (h : FinS g τ sc Z O F S lo hi) : GhOk (O, F, S, lo, hi) τ (ghO g τ) := by
  obtain ⟨n20, ky, ⟨e1, e2, e3, e4, e5, e6, e7⟩, tk, b0, rp, pu, hZ, hsc⟩ := id h
  refine ⟨(h.addr e1).2, ?_, n20, rfl, h.br (Nat.zero_le _) (fun z => ky.2.2.2.2.2.2 (by omega)) b0, fun k hk => ?_⟩
  · -- the pushing instructions
    have hz : cn g.K 84 ≤ 41 := (h.addr e1).2
    have q1 : cn ((ghO g τ).pu (O, F, S, lo, hi)) 41 = cn (fun a => decide (a < cn g.K 84) && decide (O a = 6 ∨ O a = 8)) 41 := cn_congr 41 fun x _ => by
      unfold Gh.pu
      show decide (x < cn g.K 84 ∧ (O x = 6 ∨ O x = 8)) = (decide (x < cn g.K 84) && decide (O x = 6 ∨ O x = 8))
      simp
    have q2 : cn (fun a => decide (a < cn g.K 84) && decide (O a = 6 ∨ O a = 8)) 41 = cn (fun a => decide (a < cn g.K 84) && decide (O a = 6 ∨ O a = 8)) (cn g.K 84) := cn_gap2 hz fun x x1 x2 hx => by
      simp at hx
      omega
    have q3 := cn_addr (K := g.K) (fun a => decide (O a = 6 ∨ O a = 8)) 84
    have q4 : cn (fun x => g.K x && decide (O (cn g.K x) = 6 ∨ O (cn g.K x) = 8)) 84 = cn (puK g) 84 := cn_congr 84 fun x _ => by
      unfold puK
      by_cases hx : g.K x = true
      · rw [(h.at hx).1]
      · simp [hx]
    omega
  · obtain ⟨wk, kn⟩ := hk
    by_cases hkn : k < τ.n
    · obtain ⟨t1, t2, t3, t4⟩ := tk k hkn wk
      have c1 : cn g.K (4 * k + 2) = cn g.K (4 * k + 1) + (if g.K (4 * k + 1) = true then 1 else 0) := rfl
      have hsq : (ghO g τ).sq k < (ghO g τ).z := by
        have := (h.addr t1).1
        show cn g.K (4 * k + 1) < cn g.K 84
        omega
      refine ⟨kn, hsq, ?_⟩
      obtain ⟨z1, z2, z3, z4, z5, z6, z7⟩ | ⟨z1, z2, z3, o, a, z4, z5, z6, z7, z8⟩ | ⟨z1, z2, z3, z4, z5, z6, z7, z8⟩ | ⟨z1, z2, z3, z4, z5⟩ := t4
      · -- a bar
        have esq : cn g.K (4 * k + 2) = cn g.K (4 * k + 1) := cn_f z4
        refine Or.inl ⟨by unfold isE; rw [if_pos (by omega)], ?_, fun _ => h.br (by omega) z5 z6⟩
        obtain ⟨y1, y2⟩ | ⟨o, q, y1, y2, y3, y4, y5, y6⟩ := z7
        · refine ⟨cn g.K (4 * τ.n + 2), Or.inl ⟨z1, ?_⟩, Or.inl ⟨y1, ((h.at e1).1).trans e2, (h.addr e1).1⟩⟩
          show JPc _ _ (cn g.K (4 * k + 1)) _
          rw [← esq]
          exact h.jp t1 z2 y2 e1 rfl (Or.inr ⟨by omega, by have := cn_key t1 (show 4 * k + 2 < 4 * τ.n + 2 by omega); omega⟩)
        · obtain ⟨a, x1, x2, x3, x4, x5, x6, x7⟩ := h.grp y4
          refine ⟨cn g.K (4 * q + 2), Or.inl ⟨z1, ?_⟩, Or.inr ⟨o, a, y1, by omega, x7, x6, x1, x2, x4, x5⟩⟩
          show JPc _ _ (cn g.K (4 * k + 1)) _
          rw [← esq]
          exact h.jp t1 z2 y5 x3 rfl (Or.inr ⟨by omega, by have := cn_key t1 (show 4 * k + 2 < 4 * q + 2 by omega); omega⟩)
      · -- the end of a group
        have esq : cn g.K (4 * k + 2) = cn g.K (4 * k + 1) := cn_f z3
        obtain ⟨a', x1, x2, x3, x4, x5, x6, x7⟩ := h.grp z4
        exact Or.inl ⟨by unfold isE; rw [if_pos (by omega)], ⟨cn g.K (4 * k + 2), Or.inr ⟨by omega, esq.symm⟩, Or.inr ⟨o, a', z5, by have := z4.1; omega, x7, x6, x1, x2, x4, x5⟩⟩, fun w => by omega⟩
      · -- a group
        obtain z8 | ⟨q, e, z9, z10, z11⟩ := z8
        · exact absurd z8 (fun z => z)
        obtain ⟨a, x1, x2, x3, x4, x5, x6, x7⟩ := h.grp z10
        have cq : cn g.K (4 * (q + 1)) = cn g.K (4 * q + 2) + 1 := by
          rw [show 4 * (q + 1) = 4 * q + 2 + 1 + 1 by omega, cn_f (ky.2.1 q), cn_t x3]
        have lq := cn_key t1 (show 4 * k + 2 < 4 * q + 2 by have := z10.1; omega)
        have hpc := h.pc t1 z3 t3 z9 (by
          rw [Nat.add_sub_cancel]
          intro _
          have := z10.2.2.2.2.2.1
          omega) (by omega)
        have c2 : cn g.K (4 * (k + 1)) = cn g.K (4 * k + 2) + 1 := by
          rw [show 4 * (k + 1) = 4 * k + 2 + 1 + 1 by omega, cn_f (ky.2.1 k), cn_t t1]
        obtain ⟨w, w1, w2, w3⟩ := h.tgB (j := k + 1) (by omega) z5 z6
        obtain ⟨a2, y1, y2, y3⟩ := z4
        refine Or.inr ⟨x7, hkn, (h.addr t1).1, ?_, hpc.1, Or.inl ⟨z1, a2, y1, y2, h.ge t1 z2 (by rw [y3]; omega) w1 (w2.trans c2) (by omega), c2, h.br (by omega) z5 z6⟩⟩
        rw [x5]
        have := (h.addr x3).1
        obtain ⟨-, -, -, g4⟩ := x4
        exact g4
      · -- an atom
        obtain ⟨b, e, y1, y2, y3, y4, y5⟩ := z5
        obtain ⟨r, p1, -, p3, -⟩ := id y2
        have hb1 : g.W (b - 1) = 1 → τ.c (b - 1) ≠ 40 ∧ τ.c (b - 1) ≠ 124 := by
          intro w
          by_cases q : b - 1 = k
          · rw [q]
            exact ⟨z3, z1⟩
          · have := y3 (b - 1) (by omega) (by omega)
            omega
        have cb : cn g.K (4 * b) = cn g.K (4 * k + 2) + 1 := by
          rw [← cn_t t1]
          refine cn_gap2 (by omega) fun x x1 x2 hx => ?_
          obtain ⟨m, hx4⟩ : ∃ m, x = 4 * m ∨ x = 4 * m + 1 ∨ x = 4 * m + 2 ∨ x = 4 * m + 3 := ⟨x / 4, by omega⟩
          obtain q | q | q | q := hx4
          · subst q
            obtain w | ⟨w1, w2⟩ := ky.2.2.1 m hx
            · omega
            · by_cases q : m - 1 = k
              · rw [q] at w2
                exact w2.elim z3 z1
              · have := y3 (m - 1) (by omega) (by omega)
                omega
          · subst q
            have := ky.2.2.2.1 m hx
            have := y3 m (by omega) (by omega)
            omega
          · subst q
            have := ky.2.2.2.2.1 m hx
            have := y3 m (by omega) (by omega)
            omega
          · subst q
            exact ky.2.1 m hx
        have hpc := h.pc t1 y1 t3 y2 hb1 (by omega)
        obtain ⟨x, x1, x2, x3⟩ := hpc.2
        have eaf : (ghO g τ).af k = cn g.K (4 * b) := by
          show cn g.K (4 * (τ.ae k).toNat) = _
          rw [p1, Int.toNat_natCast]
        have iE : isE τ.c k = 0 := if_neg fun w => w.elim z4 fun w => w.elim z1 z2
        refine Or.inr ⟨iE, hkn, (h.addr t1).1, ?_, hpc.1, Or.inr ⟨z3, eaf.trans cb, ?_⟩⟩
        · rw [eaf, ← x2]
          exact (h.addr x1).1
        · have rkx : e = 0 → (ghO g τ).rk ((ghO g τ).ta k) < (ghO g τ).rk ((ghO g τ).ta k + 1) := by
            intro w
            show (ghO g τ).rk (cn g.K (4 * k + 2)) < (ghO g τ).rk (cn g.K (4 * k + 2) + 1)
            rw [← cb, ← x2]
            exact h.lt t1 x1 (Or.inr ⟨by omega, by omega⟩)
          obtain ⟨r1, -, -, r2⟩ := h.at t1
          obtain ⟨v1, v2, v3, v4, t, v5, v6, v7⟩ | ⟨v1, v2, v3, v4, v5, v6⟩ := y5
          · refine Or.inl ⟨v1, v2, r1.trans v3, rkx v4, t, v5, v6, ?_⟩
            exact (r2 (by omega) (by omega)).trans v7
          · refine Or.inr ⟨v1, ?_, ?_, ?_, ?_, b, p1, by omega, by omega, ?_⟩
            · show 0 ≤ O (cn g.K (4 * k + 2))
              rw [r1]; exact v2
            · show O (cn g.K (4 * k + 2)) < 5
              rw [r1]; exact v3
            · show O (cn g.K (4 * k + 2)) = 2 → 0 ≤ F (cn g.K (4 * k + 2)) ∧ F (cn g.K (4 * k + 2)) < 6
              rw [r1, r2 (by omega) (by omega)]
              intro w
              have := v4 w
              omega
            · show O (cn g.K (4 * k + 2)) = 3 ∨ O (cn g.K (4 * k + 2)) = 4 → _
              rw [r1]
              intro w
              exact rkx (v5 w)
            · intro len tx he l1 l2 l3
              have := v6 len tx he l1 l2 l3
              show (mA τ.c k b len tx he = -1 ∧ (aF (O (cn g.K (4 * k + 2))) (F (cn g.K (4 * k + 2))) lo hi len tx he).1 = 0) ∨ (0 ≤ mA τ.c k b len tx he ∧ (aF (O (cn g.K (4 * k + 2))) (F (cn g.K (4 * k + 2))) lo hi len tx he).1 = 1 ∧ (aF (O (cn g.K (4 * k + 2))) (F (cn g.K (4 * k + 2))) lo hi len tx he).2 = mA τ.c k b len tx he ∧ ((mA τ.c k b len tx he = he + 1 ∧ he < len) ∨ (mA τ.c k b len tx he = he ∧ (O (cn g.K (4 * k + 2)) = 3 ∨ O (cn g.K (4 * k + 2)) = 4))))
              rw [r1, r2 (by omega) (by omega)]
              exact this
    · have : k = τ.n := by omega
      subst this
      have esq : cn g.K (4 * τ.n + 2) = cn g.K (4 * τ.n + 1) := cn_f e5
      refine ⟨kn, ?_, Or.inl ⟨by unfold isE; rw [if_pos (Or.inl e6)], ⟨cn g.K (4 * τ.n + 2), Or.inr ⟨by omega, esq.symm⟩, Or.inl ⟨e7, ((h.at e1).1).trans e2, (h.addr e1).1⟩⟩, fun w => by omega⟩⟩
      show cn g.K (4 * τ.n + 1) < cn g.K 84
      have := (h.addr e1).1
      omega
end Fin2
