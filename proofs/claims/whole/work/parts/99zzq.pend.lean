/-! The end of both parsers' loop -/
section Pen
variable {L : Nat} {ρ : Nat → Nat → Nat} {p pt n sc i lv gr : Nat} {en : Bool} {c : Nat → Int} {μ ν : Nat → Nat → Int} {g : PG} {E : Nat → Nat}
/-- what both parsers come to -/
def POk (p pt : Nat) (en : Bool) (μ ν : Nat → Nat → Int) (z : Int) (μ' ν' : Nat → Nat → Int) : Prop := FrP p μ μ' ∧ FrQ pt ν ν' ∧ (z = 0 ∨ (z = 1 ∧ PatOk (codOf μ' p) (txOf ν' pt en)))
theorem p_turn (rc : Rc ρ) (rm : Rm ρ) (hp : ptS L p) (pr : ptR ρ p) (hp6 : 36 ≤ p) (hpt : pt < 22) (h : PHp p pt n en c μ ν g sc i lv gr E) (hi : i < n) : ∃ μ', f_Pr_readNext 3 p (SH L, ρ, μ) = some (SH L, ρ, μ') ∧ TRs L ρ p pt n en c μ ν i lv gr μ' := by
  by_cases h1 : c i = 40
  · exact tu_open rc rm hp pr hp6 hpt h hi h1
  by_cases h2 : c i = 124
  · exact tu_bar rc rm hp pr hp6 hpt h hi h2
  by_cases h3 : c i = 41
  · cases lv with
    | zero => exact tu_close0 rc rm hp6 hpt h hi h3
    | succ lw => exact tu_close rc rm hp pr hp6 hpt h hi h3
  · exact tu_atom rc rm hp pr hp6 hpt h hi ⟨h1, h3, h2⟩
theorem p_end (rc : Rc ρ) (rm : Rm ρ) (hp : ptS L p) (pr : ptR ρ p) (hp6 : 36 ≤ p) (hpt : pt < 22) (h : PHp p pt n en c μ ν g sc n lv gr E) : ∃ (z : Int) (μ' ν' : Nat → Nat → Int), f_Pr_parse_117 3 p (SH L, ρ, μ) = some (z, (SH L, ρ, μ')) ∧ (∀ N, f_Mo_parse_71 (N + 1) 233 (pt : Int) (enI en) (n : Int) (lv : Int) (gr : Int) (n : Int) (SH L, ρ, ν) = some (z, (SH L, ρ, ν'))) ∧ POk p pt en μ ν z μ' ν' := by
  obtain ⟨⟨c1, c2, c3, c4⟩, ⟨d1, d2, d3, d4, d5⟩, ⟨p5, p6⟩, rp, lf, iv⟩ := id h
  obtain ⟨⟨q1, q2, q3, q4, q5⟩, ky, tg, tk, -, lf0, -, -, zc⟩ := id iv
  have n20 := c1.2.1
  have LV := lf0 lv (Nat.le_refl _)
  obtain ⟨x1, x2, -, -, -, -, ⟨x7, x8⟩, -⟩ := id LV
  obtain ⟨w1, w2, w3, w4, w5, w6⟩ := lf lv (Nat.le_refl _)
  obtain ⟨as, a1, a2, a3, a4⟩ := LV.aim (p := p) (μ := μ) (Z := cn g.K 84) (O := μ (p + 1)) (F := μ (p + 2)) (by omega) ky tk rp (by omega) tg
  obtain ⟨z, μ1, b1, b2, b3, b4, b5⟩ := e_close (L := L) (ρ := ρ) rc hp pr hp6 (E := E lv) (Z := cn g.K 84) (lv := lv) (as := as) (μ := μ) (by omega) (by omega) (by omega) d5 p5 (by rw [a1, w1]) w3 a3
  obtain ⟨μ2, i1, v1, v2, v3, v4, v5, v6⟩ := e_append (L := L) (ρ := ρ) hp pr (Z := cn g.K 84) (op := 9) (f := 0) (μ := μ1) (by omega) ((b3 p 5 (by omega)).trans p5)
  have m2 : ∀ q j, q < p ∨ p + 3 < q → μ2 q j = μ q j := fun q j hq => (v1 q j hq).trans (b3 q j (by omega))
  have fp : FrP p μ μ2 := fun q j _ h2 => m2 q j (by omega)
  have e117 : f_Pr_parse_117 3 p (SH L, ρ, μ) = if (lv : Int) = 0 then some (1, (SH L, ρ, μ2)) else some (0, (SH L, ρ, μ2)) := by
    unfold f_Pr_parse_117
    rw [zck_k s_3, Option.bind_some, b1, Option.bind_some]
    dsimp only
    rw [zck_k hp.1, Option.bind_some, i1, Option.bind_some, zgI_k s_3, Option.bind_some, m2 3 4 (by omega), d3, if_pos rfl, zgI_k s_3, Option.bind_some, m2 3 6 (by omega), d5]
  have e71 : ∀ N, f_Mo_parse_71 (N + 1) 233 (pt : Int) (enI en) (n : Int) (lv : Int) (gr : Int) (n : Int) (SH L, ρ, ν) = f_Mo_parse_356 233 (pt : Int) (n : Int) (lv : Int) (n : Int) (SH L, ρ, ν) := fun N => by
    rw [f_Mo_parse_71]
    show (if _ then _ else _) = _
    rw [if_neg (by omega), if_pos (Int.le_refl _)]
  by_cases hl : lv = 0
  · subst hl
    have lo0 : ν 248 0 = -1 := by
      obtain ⟨-, z⟩ | ⟨z, -⟩ := x1
      · exact z
      · omega
    obtain ⟨ν', hν⟩ : ∃ x, x = z_up (z_up (z_up ν 245 (21 * pt + n) (ν 248 0)) 250 0 (if ν 250 0 = 0 ∧ ν 251 0 = 0 then 0 else 1)) 251 0 1 := ⟨_, rfl⟩
    have fq : FrQ pt ν ν' := by
      rw [hν]
      exact ((FrQ.rf.upA (by decide) n20).upL (by decide)).upL (by decide)
    refine ⟨1, μ2, ν', ?_, fun N => ?_, fp, fq, Or.inr ⟨rfl, ?_⟩⟩
    · rw [e117, if_pos (show ((0 : Nat) : Int) = 0 from rfl)]
    · rw [e71]
      unfold f_Mo_parse_356
      have mn := m_note (L := L) (ρ := ρ) (ν := ν) rm hpt (l := 0) (a := n) (by decide) n20 x8 x7
      rw [← hν] at mn
      rw [if_neg (by omega), if_pos (show ((0 : Nat) : Int) ≤ 0 from Int.le_refl _), zck_k s_233, Option.bind_some]
      show (f_Mo_note 233 (pt : Int) (n : Int) ((0 : Nat) : Int) (SH L, ρ, ν)).bind _ = _
      rw [mn, Option.bind_some]
    · have k1p : ∀ x, barO g (txOf ν pt en) n (ν 248 0) x → (gEn g (txOf ν pt en) n).k1 x = 4 * n + 2 := fun x hx => if_pos (by rw [← lo0]; exact hx)
      have k1n : ∀ x, ¬ barO g (txOf ν pt en) n (ν 248 0) x → (gEn g (txOf ν pt en) n).k1 x = g.k1 x := fun x hx => if_neg (fun z => hx (by rw [← lo0] at z; exact z))
      have kb : ∀ x, g.K x = true → (g.ko x = 6 ∨ g.ko x = 7 → (gEn g (txOf ν pt en) n).k1 x ≤ 4 * n + 2) ∧ (g.ko x = 6 → g.k2 x ≤ 4 * n + 2) := fun x z => by
        obtain ⟨w1, w2⟩ := tg x z
        refine ⟨fun u => ?_, fun u => by have := w2 u; omega⟩
        by_cases w : barO g (txOf ν pt en) n (ν 248 0) x
        · rw [k1p x w]
          exact Nat.le_refl _
        · rw [k1n x w]
          have := w1 u
          omega
      have rN := a4 (μ1 (p + 2)) (gEn g (txOf ν pt en) n).k1 b4 b5 k1p k1n
      have rA := RepN.app rN (y := 4 * n + 2) (fun x z => by have := ky.1 x z; omega) (by omega) kb (op := 9) (f := 0) (by decide) (by decide)
      have fr1 : ∀ q, q ≠ p + 2 → μ1 q = μ q := fun q h1 => funext fun j => b3 q j h1
      have rA' : RepG (gEn g (txOf ν pt en) n) (cn g.K 84 + 1) (μ2 (p + 1)) (μ2 (p + 2)) (μ2 (p + 3)) := by
        rw [v4, v5, v6, fr1 (p + 1) (by omega), fr1 (p + 3) (by omega)]
        exact rA
      have u0 : ∀ q j, q < 245 ∨ q = 246 ∨ q = 247 → ν' q j = ν q j := fun q j hq => by
        rw [hν, z_up_ne (by omega), z_up_ne (by omega), z_up_ne (by omega)]
      have u5 : ∀ m, m ≠ n → ν' 245 (21 * pt + m) = ν 245 (21 * pt + m) := fun m hm => by
        rw [hν, z_up_ne (by omega), z_up_ne (by omega), z_up_nj (by omega)]
      have u6 : ν' 245 (21 * pt + n) = -1 := by
        rw [hν, z_up_ne (by omega), z_up_ne (by omega), z_up_eq, lo0]
      have fin := st_end (τ' := txOf ν' pt en) iv (show (ν 239 pt).toNat = n by omega) (by show tA ν pt n = 0; rw [c2]; exact c1.2.2.2 n (Nat.le_refl _)) ⟨fq.ta, rfl, congrArg Int.toNat (fq.1 239 pt (by omega)), u0 247 pt (by omega)⟩ u5 u6 (fun m => ⟨u0 _ _ (by omega), u0 _ _ (by omega), u0 _ _ (by omega), u0 _ _ (by omega), u0 _ _ (by omega)⟩) rA'
      have s4 : μ2 (p + 4) = μ (p + 4) := funext fun j => m2 _ j (by omega)
      have s5 : μ2 (p + 5) = μ (p + 5) := funext fun j => m2 _ j (by omega)
      refine ⟨ghO (gEn g (txOf ν pt en) n) (txOf ν' pt en), ?_⟩
      show GhOk (μ2 (p + 1), μ2 (p + 2), μ2 (p + 3), μ2 (p + 4), μ2 (p + 5)) (txOf ν' pt en) _
      rw [s4, s5]
      exact fin.ok
  · refine ⟨0, μ2, ν, ?_, fun N => ?_, fp, FrQ.rf, Or.inl rfl⟩
    · rw [e117, if_neg (by omega)]
    · rw [e71]
      unfold f_Mo_parse_356
      rw [if_neg (by omega), if_neg (by omega)]
theorem p_loop (rc : Rc ρ) (rm : Rm ρ) (hp : ptS L p) (pr : ptR ρ p) (hp6 : 36 ≤ p) (hpt : pt < 22) : ∀ (d i ct N1 N2 lv gr sc : Nat) (E : Nat → Nat) (g : PG) (μ ν : Nat → Nat → Int), i + d = n → ct ≤ i → d < N1 → d + 1 < N2 → PHp p pt n en c μ ν g sc i lv gr E → ∃ (z : Int) (μ' ν' : Nat → Nat → Int), f_Pr_parse_80 N1 3 p (ct : Int) (SH L, ρ, μ) = some (z, (SH L, ρ, μ')) ∧ f_Mo_parse_71 N2 233 (pt : Int) (enI en) (n : Int) (lv : Int) (gr : Int) (i : Int) (SH L, ρ, ν) = some (z, (SH L, ρ, ν')) ∧ POk p pt en μ ν z μ' ν' := by
  intro d
  induction d using Nat.strongRecOn with
  | _ d ih =>
    intro i ct N1 N2 lv gr sc E g μ ν hd hct h1 h2 h
    obtain ⟨N1, rfl⟩ : ∃ k, N1 = k + 1 := ⟨N1 - 1, by omega⟩
    obtain ⟨N2, rfl⟩ : ∃ k, N2 = k + 2 := ⟨N2 - 2, by omega⟩
    obtain ⟨⟨c1, c2, c3, c4⟩, ⟨d1, d2, d3, d4, d5⟩, -⟩ := id h
    have n20 := c1.2.1
    by_cases hi : i < n
    · obtain ⟨μ1, r1, r2, r3⟩ := p_turn (L := L) rc rm hp pr hp6 hpt h hi
      have e80 : f_Pr_parse_80 (N1 + 1) 3 p (ct : Int) (SH L, ρ, μ) = f_Pr_parse_80 N1 3 p ((ct + 1 : Nat) : Int) (SH L, ρ, μ1) := by
        rw [f_Pr_parse_80]
        show (if _ then _ else _) = _
        rw [if_neg (by omega), zgI_k s_3, Option.bind_some, d1, zgI_k s_3, Option.bind_some, c1.1, if_neg (by omega), zgI_k s_3, Option.bind_some, d3, if_pos rfl, zck_k s_3, Option.bind_some, r1, Option.bind_some, zw_of (by omega) (by omega), show (ct : Int) + 1 = ((ct + 1 : Nat) : Int) by omega]
      obtain ⟨ν', g', sc', i', lv', gr', E', k1, k2, k3, k4⟩ | ⟨k1, ν', k2, k3⟩ := r3
      · have hin : i' ≤ n := by
          have := k4.2.2.2.2.2.1.1
          have e := k4.1.2.2.1
          have : i' ≤ (ν' 239 pt).toNat := this
          omega
        obtain ⟨z, μ', ν'', s1, s2, s3, s4, s5⟩ := ih (n - i') (by omega) i' (ct + 1) N1 (N2 + 1) lv' gr' sc' E' g' μ1 ν' (by omega) (by omega) (by omega) (by omega) k4
        exact ⟨z, μ', ν'', e80.trans s1, (k3 (N2 + 1)).trans s2, r2.tr s3, k2.tr s4, s5⟩
      · obtain ⟨μ', s1, s2⟩ := e_endB (L := L) rc hp pr hp6 k1
        refine ⟨0, μ', ν', e80.trans ?_, k3 N2, r2.tr s2, k2, Or.inl rfl⟩
        obtain ⟨N1, rfl⟩ : ∃ k, N1 = k + 1 := ⟨N1 - 1, by omega⟩
        rw [f_Pr_parse_80]
        show (if _ then _ else _) = _
        rw [zgI_k s_3, Option.bind_some, zgI_k s_3, Option.bind_some, zgI_k s_3, Option.bind_some, k1.1, if_neg (show ¬ (1 : Int) = 0 by decide), s1]
        by_cases g1 : (20 : Int) ≤ ((ct + 1 : Nat) : Int)
        · rw [if_pos g1]
        · rw [if_neg g1]
          by_cases g2 : μ1 3 1 ≤ μ1 3 2
          · rw [if_pos g2]
          · rw [if_neg g2]
    · have e : i = n := by omega
      subst e
      obtain ⟨z, μ', ν', s1, s2, s3⟩ := p_end (L := L) rc rm hp pr hp6 hpt h
      refine ⟨z, μ', ν', ?_, s2 (N2 + 1), s3⟩
      rw [f_Pr_parse_80]
      show (if _ then _ else _) = _
      rw [zgI_k s_3, Option.bind_some, d1, zgI_k s_3, Option.bind_some, c1.1, if_pos (Int.le_refl _), s1]
      by_cases g1 : (20 : Int) ≤ (ct : Int)
      · rw [if_pos g1]
      · rw [if_neg g1]
end Pen
