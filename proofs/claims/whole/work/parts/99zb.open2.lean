/-! A range opens in both; the start of a line in both; the end of a line -/
section Op2
variable {L : Nat} {ρ : Nat → Nat → Nat} {μ ν : Nat → Nat → Int} {u k : Nat}
theorem open_both (rc : Rc ρ) (rm : Rm ρ) (hu : u < 6) (hk : k < 6) (rr : RRules μ ν) (rs : RSt μ ν 26 6) (rl : TLn μ ν (179 + 9 * u) k) {a : Nat} (a1 : 1 ≤ a) (aR : (a : Int) ≤ μ 24 1) (ar : μ (36 + 13 * a) 2 = 1) (h5 : μ 26 0 < 5) (hg : ∀ g : Nat, g < 6 → ν 268 g = μ 31 g ∧ -1 ≤ μ 31 g ∧ μ 31 g ≤ μ (179 + 9 * u) 1) :
    ∃ μ1 μ2 μ3 ν4, f_St_push 26 (a : Int) (SH L, ρ, μ) = some (SH L, ρ, μ1) ∧ f_St_keepText 26 1 (179 + 9 * u) (μ 31 0) (μ 31 1) (SH L, ρ, μ1) = some (SH L, ρ, μ2) ∧ f_St_keepText 26 2 (179 + 9 * u) (μ 31 2) (μ 31 3) (SH L, ρ, μ2) = some (SH L, ρ, μ3) ∧ f_Mo_openRange 233 (k : Int) (a : Int) (SH L, ρ, ν) = some (SH L, ρ, ν4) ∧ (∀ c j, c < 26 ∨ 29 < c → μ1 c j = μ c j) ∧ (∀ c j, c < 26 ∨ 29 < c → μ2 c j = μ c j) ∧ (∀ c j, c < 26 ∨ 29 < c → μ3 c j = μ c j) ∧ (∀ c j, c < 263 ∨ 266 < c → ν4 c j = ν c j) ∧ (∀ j, j ≠ 6 → ν4 263 j = ν 263 j) ∧ (∀ j, ¬ (30 ≤ j ∧ j < 35) → ν4 264 j = ν 264 j) ∧ (∀ j, ¬ (60 ≤ j ∧ j < 70) → ν4 265 j = ν 265 j) ∧ (∀ j, ¬ (1440 ≤ j ∧ j < 1680) → ν4 266 j = ν 266 j) ∧ RSt μ3 ν4 26 6 ∧ μ3 26 0 = μ 26 0 + 1 := by
  have r9 := rr.2.1
  obtain ⟨s0, s5, se, sr, st⟩ := rs
  obtain ⟨⟨l0, l24, lc⟩, le, lt⟩ := rl
  obtain ⟨o, ho⟩ : ∃ o : Nat, μ 26 0 = o := ⟨(μ 26 0).toNat, by omega⟩
  have f1 : ∀ c j, c < 26 ∨ 27 < c → z_up (z_up μ 27 o (a : Int)) 26 0 ((o + 1 : Nat) : Int) c j = μ c j := fun c j h => (z_up_ne (by omega)).trans (z_up_ne (by omega))
  have e1 : f_St_push 26 (a : Int) (SH L, ρ, μ) = some (SH L, ρ, z_up (z_up μ 27 o (a : Int)) 26 0 ((o + 1 : Nat) : Int)) := by
    unfold f_St_push
    rw [zgR_k s_26 rc.2.2.2.1.2.2.1 (by decide), Option.bind_some, zgI_k s_26, Option.bind_some, ho, zsI_k s_27 (by omega) (by omega), Option.bind_some, Int.toNat_natCast, zgI_k s_26, Option.bind_some, z_up_ne (by decide), ho, zw_of (by omega) (by omega), zpI_k s_26, Option.bind_some, show ((o + 1 : Nat) : Int) = (o : Int) + 1 by omega]
  obtain ⟨μ2, b1, b2, b3, b4, b5, b6⟩ := e_keepT (L := L) rc (s_ln hu) (rc.2.2.2.2.2.2.2 u hu) (by omega) (o := o) (t := 0) (by omega) (by omega) (μ := z_up (z_up μ 27 o (a : Int)) 26 0 ((o + 1 : Nat) : Int)) z_up_eq (a := μ 31 0) (b := μ 31 1) (len := μ (179 + 9 * u) 1) (hg 0 (by omega)).2.1 (hg 1 (by omega)).2.1 (Int.le_trans (hg 0 (by omega)).2.2 l24) (hg 1 (by omega)).2.2 l24 (fun c hc => by
    rw [f1 _ _ (by omega)]
    have := lc c hc
    exact ⟨by omega, by omega⟩)
  obtain ⟨μ3, c1, c2, c3, c4, c5, c6⟩ := e_keepT (L := L) rc (s_ln hu) (rc.2.2.2.2.2.2.2 u hu) (by omega) (o := o) (t := 1) (by omega) (by omega) (μ := μ2) ((b2 _ _ (by decide) (by decide)).trans z_up_eq) (a := μ 31 2) (b := μ 31 3) (len := μ (179 + 9 * u) 1) (hg 2 (by omega)).2.1 (hg 3 (by omega)).2.1 (Int.le_trans (hg 2 (by omega)).2.2 l24) (hg 3 (by omega)).2.2 l24 (fun c hc => by
    rw [b2 _ _ (by omega) (by omega), f1 _ _ (by omega)]
    have := lc c hc
    exact ⟨by omega, by omega⟩)
  obtain ⟨ν2, d1, d2, d3, d4, d5, d6⟩ := m_op21 (L := L) rm hk (t := 0) (o := o) (by omega) (by omega) (a := μ 31 0) (b := μ 31 1) (len := μ (179 + 9 * u) 1) (hg 0 (by omega)).2.1 (hg 1 (by omega)).2.1 (Int.le_trans (hg 0 (by omega)).2.2 l24) (hg 1 (by omega)).2.2 l24 99999 (z_up ν 264 (30 + o) (a : Int)) ((z_up_ne (by decide)).trans (hg 0 (by omega)).1) ((z_up_ne (by decide)).trans (hg 1 (by omega)).1)
  obtain ⟨ν3, g1, g2, g3, g4, g5, g6⟩ := m_op21 (L := L) rm hk (t := 1) (o := o) (by omega) (by omega) (a := μ 31 2) (b := μ 31 3) (len := μ (179 + 9 * u) 1) (hg 2 (by omega)).2.1 (hg 3 (by omega)).2.1 (Int.le_trans (hg 2 (by omega)).2.2 l24) (hg 3 (by omega)).2.2 l24 99998 ν2 ((d2 _ _ (by decide) (by decide)).trans ((z_up_ne (by decide)).trans (hg 2 (by omega)).1)) ((d2 _ _ (by decide) (by decide)).trans ((z_up_ne (by decide)).trans (hg 3 (by omega)).1))
  have h63 : ∀ j, ν3 263 j = ν 263 j := fun j => (g2 _ _ (by decide) (by decide)).trans ((d2 _ _ (by decide) (by decide)).trans (z_up_ne (by decide)))
  have h64 : ∀ j, ν3 264 j = z_up ν 264 (30 + o) (a : Int) 264 j := fun j => (g2 _ _ (by decide) (by decide)).trans (d2 _ _ (by decide) (by decide))
  have h57 : ∀ j, ν2 257 j = ν 257 j := fun j => (d2 _ _ (by decide) (by decide)).trans (z_up_ne (by decide))
  have f2 : ∀ c j, c < 26 ∨ 29 < c → μ2 c j = μ c j := fun c j h => (b2 _ _ (by omega) (by omega)).trans (f1 _ _ (by omega))
  have f3 : ∀ c j, c < 26 ∨ 29 < c → μ3 c j = μ c j := fun c j h => (c2 _ _ (by omega) (by omega)).trans (f2 _ _ (by omega))
  have m26 : μ3 26 0 = ((o + 1 : Nat) : Int) := (c2 _ _ (by decide) (by decide)).trans ((b2 _ _ (by decide) (by decide)).trans z_up_eq)
  have m27 : ∀ j, μ3 27 j = z_up μ 27 o (a : Int) 27 j := fun j => (c2 _ _ (by decide) (by decide)).trans ((b2 _ _ (by decide) (by decide)).trans (z_up_ne (by decide)))
  refine ⟨_, μ2, μ3, z_up ν3 263 6 ((o + 1 : Nat) : Int), e1, b1, c1, ?_, fun c j h => f1 c j (by omega), f2, f3, fun c j h => (z_up_ne (by omega)).trans ((g2 _ _ (by omega) (by omega)).trans ((d2 _ _ (by omega) (by omega)).trans (z_up_ne (by omega)))), fun j h => (z_up_nj h).trans (h63 j), fun j h => (z_up_ne (by decide)).trans ((h64 j).trans (z_up_nj (by omega))), fun j h => (z_up_ne (by decide)).trans ((g3 j (by omega)).trans ((d3 j (by omega)).trans (z_up_ne (by decide)))), fun j h => (z_up_ne (by decide)).trans ((g5 j (by omega)).trans ((d5 j (by omega)).trans (z_up_ne (by decide)))), ?_, by rw [m26, ho]; omega⟩
  · unfold f_Mo_openRange
    rw [zgR_k s_233 (m_39 rm) (by decide), Option.bind_some, zaI_k s_263 (by decide) (by decide), Option.bind_some, show (6 : Int).toNat = 6 from rfl, se, ho, zgR_k s_233 (m_40 rm) (by decide), Option.bind_some, zw_of (x := 30 + (o : Int)) (by omega) (by omega), zsI_k s_264 (by omega) (by omega), Option.bind_some, show (30 + (o : Int)).toNat = 30 + o by omega]
    refine (d1.trans g1).trans ?_
    rw [f_Mo_openRange_21]
    show (if _ then _ else _) = _
    rw [if_pos (by decide), zgR_k s_233 (m_39 rm) (by decide), Option.bind_some, zaI_k s_263 (by decide) (by decide), Option.bind_some, show (6 : Int).toNat = 6 from rfl, h63, se, ho, zw_of (by omega) (by omega), zsI_k s_263 (by decide) (by decide), Option.bind_some, show (6 : Int).toNat = 6 from rfl, show ((o + 1 : Nat) : Int) = (o : Int) + 1 by omega]
  · have tx : ∀ c : Nat, (c : Int) < μ (179 + 9 * u) 1 → ν 257 (24 * k + c) = μ (179 + 9 * u + 1) c ∧ 0 ≤ μ (179 + 9 * u + 1) c ∧ μ (179 + 9 * u + 1) c < 65536 := by
      intro c hc
      have := lc c hc
      exact ⟨lt c hc, by omega, by omega⟩
    have cn : ∀ (x y : Int), -1 ≤ x → -1 ≤ y → y ≤ μ (179 + 9 * u) 1 → gcnt x y ≤ 24 ∧ ∀ i : Nat, (i : Int) < gcnt x y → (((x + i).toNat : Nat) : Int) < μ (179 + 9 * u) 1 := by
      intro x y x0 y0 y1
      unfold gcnt
      by_cases h : x = -1
      · rw [if_pos h]
        exact ⟨by omega, fun i hi => by omega⟩
      · rw [if_neg h]
        exact ⟨by omega, fun i hi => by omega⟩
    unfold RSt
    rw [m26, z_up_eq, f3 24 1 (by omega)]
    refine ⟨by omega, by omega, rfl, fun l hl => ?_, fun j hj => ?_⟩
    · show z_up ν3 263 6 _ 264 (30 + l) = μ3 27 l ∧ 1 ≤ μ3 27 l ∧ μ3 27 l ≤ μ 24 1 ∧ μ3 (36 + 13 * (μ3 27 l).toNat) 2 = 1
      rw [z_up_ne (by decide), h64, m27]
      by_cases hlo : l = o
      · rw [hlo, z_up_eq, z_up_eq, Int.toNat_natCast, f3 _ _ (by omega)]
        exact ⟨rfl, by omega, aR, ar⟩
      · obtain ⟨q1, q2, q3, q4⟩ := sr l (by omega)
        rw [z_up_nj (by omega), z_up_nj hlo]
        refine ⟨q1, q2, q3, ?_⟩
        have q2' : 1 ≤ μ 27 l := q2
        have q3' : μ 27 l ≤ μ 24 1 := q3
        rw [f3 _ _ (by omega)]
        exact q4
    · show z_up ν3 263 6 _ 265 (60 + j) = μ3 28 j ∧ μ3 28 j ≤ 24 ∧ ∀ c : Nat, (c : Int) < μ3 28 j → z_up ν3 263 6 _ 266 (1440 + 24 * j + c) = μ3 29 (24 * j + c) ∧ 0 ≤ μ3 29 (24 * j + c) ∧ μ3 29 (24 * j + c) < 65536
      rw [z_up_ne (by decide)]
      by_cases h1 : j = 2 * o + 1
      · rw [h1, g4, c4]
        obtain ⟨k1, k2⟩ := cn (μ 31 2) (μ 31 3) (hg 2 (by omega)).2.1 (hg 3 (by omega)).2.1 (hg 3 (by omega)).2.2
        refine ⟨rfl, k1, fun c hc => ?_⟩
        obtain ⟨x1, x2, x3⟩ := tx _ (k2 c hc)
        rw [z_up_ne (by decide), g6 c hc, c6 c hc, h57, f2 _ _ (by omega)]
        exact ⟨x1, x2, x3⟩
      · by_cases h2 : j = 2 * o + 0
        · rw [h2, g3 _ (by omega), d4, c3 _ (by omega), b4]
          obtain ⟨k1, k2⟩ := cn (μ 31 0) (μ 31 1) (hg 0 (by omega)).2.1 (hg 1 (by omega)).2.1 (hg 1 (by omega)).2.2
          refine ⟨rfl, k1, fun c hc => ?_⟩
          obtain ⟨x1, x2, x3⟩ := tx _ (k2 c hc)
          rw [z_up_ne (by decide), g5 _ (by omega), d6 c hc, c5 _ (by omega), b6 c hc, z_up_ne (by decide), f1 _ _ (by omega)]
          exact ⟨x1, x2, x3⟩
        · obtain ⟨q1, q2, q3⟩ := st j (by omega)
          rw [g3 _ (by omega), d3 _ (by omega), z_up_ne (by decide), c3 _ (by omega), b3 _ (by omega), f1 _ _ (by omega)]
          refine ⟨q1, q2, fun c hc => ?_⟩
          have q2' : μ 28 j ≤ 24 := q2
          rw [z_up_ne (by decide), g5 _ (by omega), d5 _ (by omega), z_up_ne (by decide), c5 _ (by omega), b5 _ (by omega), f1 _ _ (by omega)]
          exact q3 c hc
/-- where a line starts: the class's state s -/
def StR (μ ν : Nat → Nat → Int) (u k s : Nat) : Prop := (k = 0 ∧ s = 16 ∧ μ 16 0 = 0) ∨ (1 ≤ k ∧ RSt μ ν s (k - 1) ∧ ∃ v, v < 6 ∧ v ≠ u ∧ s = 184 + 9 * v)
theorem begin_both (rc : Rc ρ) (rm : Rm ρ) (hk : k < 6) {s : Nat} (rr : RRules μ ν) (hs : StR μ ν u k s) : ∃ μ' ν', f_St_copy 26 s (SH L, ρ, μ) = some (SH L, ρ, μ') ∧ f_Mo_begin 233 (k : Int) (SH L, ρ, ν) = some (SH L, ρ, ν') ∧ (∀ c j, c < 26 ∨ 29 < c → μ' c j = μ c j) ∧ (∀ c j, c < 263 ∨ 266 < c → ν' c j = ν c j) ∧ (∀ j, j ≠ 6 → ν' 263 j = ν 263 j) ∧ (∀ j, ¬ (30 ≤ j ∧ j < 35) → ν' 264 j = ν 264 j) ∧ (∀ j, ¬ (60 ≤ j ∧ j < 70) → ν' 265 j = ν 265 j) ∧ (∀ j, ¬ (1440 ≤ j ∧ j < 1680) → ν' 266 j = ν 266 j) ∧ RSt μ' ν' 26 6 := by
  have r9 := rr.2.1
  obtain ⟨h0, h1, h2⟩ | ⟨h1, h2, v, v1, v2, v3⟩ := hs
  · subst h0 h1
    obtain ⟨μ', a1, a2, a3, a4, a5, a6⟩ := e_copyS (L := L) (a := 26) (b := 16) s_st26 s_st16 rc.2.2.2.1.2.2 rc.2.2.2.1.1 (by omega) μ
    refine ⟨μ', z_up ν 263 6 0, a1, ?_, fun c j h => a2 c j (by omega), fun c j h => z_up_ne (by omega), fun j h => z_up_nj h, fun j _ => z_up_ne (by decide), fun j _ => z_up_ne (by decide), fun j _ => z_up_ne (by decide), ?_⟩
    · unfold f_Mo_begin
      rw [if_pos (show ((0 : Nat) : Int) = 0 from rfl), zgR_k s_233 (m_39 rm) (by decide), Option.bind_some, zsI_k s_263 (by decide) (by decide), Option.bind_some]
      rfl
    · have e : μ' 26 0 = 0 := a3.trans h2
      unfold RSt
      rw [e, z_up_eq]
      exact ⟨by omega, by omega, rfl, fun l hl => by omega, fun j hj => by omega⟩
  · subst v3
    have lr := rc.2.2.2.2.2.2.2 v v1
    have rs' : stR ρ (184 + 9 * v) := by
      have := lr.2.2.2.2.2
      rw [show 179 + 9 * v + 5 = 184 + 9 * v by omega] at this
      exact this
    have ss' : stS L (184 + 9 * v) := by
      have := (s_ln (L := L) v1).2.2.2.2.2
      rw [show 179 + 9 * v + 5 = 184 + 9 * v by omega] at this
      exact this
    obtain ⟨μ', a1, a2, a3, a4, a5, a6⟩ := e_copyS (L := L) (a := 26) (b := 184 + 9 * v) s_st26 ss' rc.2.2.2.1.2.2 rs' (by omega) μ
    obtain ⟨ν', b1, b2⟩ := e_copyM (L := L) rm (x := k - 1) (y := 6) (by omega) (by omega) (by omega) ν
    refine ⟨μ', ν', a1, ?_, fun c j h => a2 c j (by omega), b2.1, b2.2.1, b2.2.2.2.1, b2.2.2.2.2.2.1, b2.2.2.2.2.2.2.2.1, h2.cp a3 a4 a5 a6 (a2 _ _ (by omega)) (fun r g => a2 _ _ (by omega)) b2⟩
    unfold f_Mo_begin
    rw [if_neg (by omega), zck_k s_233, Option.bind_some, zw_of (by omega) (by omega), show (k : Int) - 1 = ((k - 1 : Nat) : Int) by omega]
    rw [show (6 : Int) = ((6 : Nat) : Int) from rfl, b1, Option.bind_some]
/-- a line ends: both keep the state -/
theorem exit_both (rc : Rc ρ) (rm : Rm ρ) (hu : u < 6) (hk : k < 6) (rr : RRules μ ν) (rs : RSt μ ν 26 6) (rl : TLn μ ν (179 + 9 * u) k) (tk : TTk μ ν (179 + 9 * u) k) (mk : ν 258 k = μ (179 + 9 * u) 6 ∧ (μ (179 + 9 * u) 6 = 0 ∨ μ (179 + 9 * u) 6 = 1)) : ∃ μ' ν', f_Gr_tokenize_111 24 (179 + 9 * u) (SH L, ρ, μ) = some (SH L, ρ, μ') ∧ f_Mo_tokenize_307 233 (k : Int) (SH L, ρ, ν) = some (SH L, ρ, ν') ∧ (∀ c j, c < 184 + 9 * u ∨ 187 + 9 * u < c → μ' c j = μ c j) ∧ CpM 6 k ν ν' ∧ RLn μ' ν' (179 + 9 * u) k := by
  have r9 := rr.2.1
  have lr := rc.2.2.2.2.2.2.2 u hu
  obtain ⟨μ', a1, a2, a3, a4, a5, a6⟩ := e_copyS (L := L) (a := 179 + 9 * u + 5) (b := 26) (s_ln hu).2.2.2.2.2 s_st26 lr.2.2.2.2.2 rc.2.2.2.1.2.2 (by omega) μ
  obtain ⟨ν', b1, b2⟩ := e_copyM (L := L) rm (x := 6) (y := k) (by omega) (by omega) (by omega) ν
  have up : ∀ c j, c < 179 + 9 * u + 5 → μ' c j = μ c j := fun c j h => a2 c j (by omega)
  refine ⟨μ', ν', ?_, ?_, fun c j h => a2 c j (by omega), b2, ?_⟩
  · unfold f_Gr_tokenize_111
    rw [zgR_k (sl_0 hu) lr.2.2.2.2.1 (by omega), Option.bind_some, zgR_k s_24 rc.2.2.2.2.1.2.2.1 (by decide), Option.bind_some, zck_k (sl_5 hu), Option.bind_some, a1, Option.bind_some]
  · unfold f_Mo_tokenize_307
    rw [zck_k s_233, Option.bind_some]
    refine (congrArg (fun z => z.bind fun h2 => some h2) b1).trans ?_
    rfl
  · obtain ⟨⟨l0, l24, lc⟩, le, lt⟩ := rl
    obtain ⟨t0, t24, te, tt⟩ := tk
    have hb := b2.1
    unfold RLn
    rw [up _ 1 (by omega), up _ 6 (by omega), up _ 5 (by omega), hb 256 _ (by omega), hb 258 _ (by omega), hb 259 _ (by omega)]
    refine ⟨⟨l0, l24, le, fun c hc => ?_⟩, mk, ⟨t0, t24, te, fun t ht => ?_⟩, rs.cp a3 a4 a5 a6 (up _ _ (by omega)) (fun r g => up _ _ (by omega)) b2⟩
    · rw [hb 257 _ (by omega), up _ _ (by omega)]
      exact ⟨lt c hc, lc c hc⟩
    · obtain ⟨q1, q2, q3, q4, q5⟩ := tt t ht
      rw [hb 260 _ (by omega), hb 261 _ (by omega), up _ _ (by omega), up _ _ (by omega)]
      refine ⟨q1, q2, q3, q4, fun i hi => ?_⟩
      rw [hb 262 _ (by omega), up _ _ (by omega)]
      exact q5 i hi
end Op2
