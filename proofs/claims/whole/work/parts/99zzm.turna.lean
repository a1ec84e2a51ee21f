/-! One turn: an atom -/
section Tra
variable {L : Nat} {ρ : Nat → Nat → Nat} {p pt n sc i lv gr : Nat} {en : Bool} {c : Nat → Int} {μ ν : Nat → Nat → Int} {g : PG} {E : Nat → Nat}
theorem q_fr (hp6 : 36 ≤ p) {b s Zc lv : Nat} {c : Nat → Int} {μ μ' : Nat → Nat → Int} {X Y : Int} (h2 : μ 3 2 = b) (h4 : μ 3 4 = 0) (hQ : (qN c b = 0 ∧ μ' = z_up μ 9 lv X) ∨ (qN c b ≠ 0 ∧ ∃ μ1 μ2, μ1 = z_up (z_up μ 3 2 (qE c b : Int)) 3 4 0 ∧ RepO p s Zc (c b) (qL c b) μ1 μ2 ∧ μ' = z_up μ2 9 lv Y)) : QFr p lv μ μ' ∧ μ' 3 2 = (qE c b : Int) ∧ μ' 3 4 = 0 ∧ μ' 9 lv = (if qN c b = 0 then X else Y) := by
  obtain ⟨q0, e⟩ | ⟨q0, μ1, μ2, e1, hR, e⟩ := hQ
  · subst e
    refine ⟨⟨fun c' j _ h9 _ => z_up_ne h9, fun j _ _ => z_up_ne (by decide), fun j hj => z_up_nj hj, fun j _ => z_up_ne (by omega)⟩, ?_, (z_up_ne (by decide)).trans h4, ?_⟩
    · rw [z_up_ne (by decide), h2]
      unfold qE
      rw [if_pos q0]
    · rw [if_pos q0]
      exact z_up_eq
  · have fr : ∀ c' j, c' < p ∨ p + 3 < c' → μ2 c' j = μ1 c' j := by
      obtain ⟨-, h⟩ | ⟨-, h⟩ | ⟨-, μ3, h, k⟩ := hR
      · exact h.1
      · exact h.1
      · exact fun c' j z => (k.1 c' j z).trans (h.1 c' j z)
    have frp : ∀ j, j ≠ 5 → μ2 p j = μ1 p j := by
      obtain ⟨-, h⟩ | ⟨-, h⟩ | ⟨-, μ3, h, k⟩ := hR
      · exact h.2.1
      · exact h.2.1
      · exact fun j z => (k.2.1 j z).trans (h.2.1 j z)
    subst e
    subst e1
    refine ⟨⟨fun c' j h3 h9 hc => ?_, fun j j2 j4 => ?_, fun j hj => ?_, fun j hj => ?_⟩, ?_, ?_, ?_⟩
    · rw [z_up_ne h9, fr c' j hc, z_up_ne h3, z_up_ne h3]
    · rw [z_up_ne (by decide), fr 3 j (by omega), z_up_nj j4, z_up_nj j2]
    · rw [z_up_nj hj, fr 9 j (by omega), z_up_ne (by decide), z_up_ne (by decide)]
    · rw [z_up_ne (by omega), frp j hj, z_up_ne (by omega), z_up_ne (by omega)]
    · rw [z_up_ne (by decide), fr 3 2 (by omega), z_up_nj (by decide), z_up_eq]
    · rw [z_up_ne (by decide), fr 3 4 (by omega), z_up_eq]
    · rw [if_neg q0]
      exact z_up_eq
theorem m_neg {N : Nat} {a1 a2 a3 a4 a5 : Int} {h : zH} : f_Mo_parse_71 (N + 1) 233 a1 a2 a3 a4 a5 (-1) h = some (0, h) := by
  rw [f_Mo_parse_71]
  show (if _ then _ else _) = _
  rw [if_pos (by decide)]
  unfold f_Mo_parse_356
  rw [if_pos (by decide)]
theorem m_atomR (rm : Rm ρ) (hpt : pt < 22) (h : PHp p pt n en c μ ν g sc i lv gr E) (hi : i < n) (hc : c i ≠ 40 ∧ c i ≠ 41 ∧ c i ≠ 124) {B : Int} (hB : f_Mo_simple 233 (pt : Int) (i : Int) (enI en) (SH L, ρ, z_up ν 246 (21 * pt + i) (-1)) = some (B, (SH L, ρ, z_up ν 246 (21 * pt + i) (-1)))) (N : Nat) : f_Mo_parse_71 (N + 1) 233 (pt : Int) (enI en) (n : Int) (lv : Int) (gr : Int) (i : Int) (SH L, ρ, ν) = if 0 ≤ B then (f_Mo_quantified 233 (pt : Int) (i : Int) B (if c i = 94 ∨ c i = 36 ∨ isR c i = 1 then 1 else 0) (lv : Int) (SH L, ρ, z_up ν 246 (21 * pt + i) (-1))).bind fun q6 => f_Mo_parse_71 N 233 (pt : Int) (enI en) (n : Int) (lv : Int) (gr : Int) q6.1 q6.2 else f_Mo_parse_71 N 233 (pt : Int) (enI en) (n : Int) (lv : Int) (gr : Int) (-1) (SH L, ρ, z_up ν 246 (21 * pt + i) (-1)) := by
  have a0 := mt_00 (L := L) rm hpt h hi
  obtain ⟨⟨c1, c2, c3, c4⟩, -⟩ := id h
  have n20 := c1.2.1
  have fq : FrQ pt ν (z_up ν 246 (21 * pt + i) (-1)) := FrQ.rf.upA (by decide) (by omega)
  have ta : tA (z_up ν 246 (21 * pt + i) (-1)) pt = c := fq.ta.trans c2
  have n9 : z_up ν 246 (21 * pt + i) (-1) 239 pt = n := (fq.1 239 pt (by omega)).trans c3
  rw [f_Mo_parse_71]
  show (if _ then _ else _) = _
  rw [if_neg (by omega), if_neg (by omega), zck_k s_233, Option.bind_some, a0, Option.bind_some]
  dsimp only
  rw [zgR_k s_233 (m_15 rm) (by decide), Option.bind_some, zw_of (x := 21 * (pt : Int)) (by omega) (by omega), zw_of (x := 21 * (pt : Int) + i) (by omega) (by omega), zsI_k s_246 (by omega) (by omega), Option.bind_some, show (21 * (pt : Int) + (i : Int)).toNat = 21 * pt + i by omega, if_neg hc.1, if_neg hc.2.2, if_neg hc.2.1, zck_k s_233, Option.bind_some, hB, Option.bind_some]
  dsimp only
  have e327 : ∀ em : Int, f_Mo_parse_327 (f_Mo_parse_71 N) 233 (pt : Int) (enI en) (n : Int) (lv : Int) (gr : Int) (i : Int) B em (SH L, ρ, z_up ν 246 (21 * pt + i) (-1)) = if 0 ≤ B then (f_Mo_quantified 233 (pt : Int) (i : Int) B em (lv : Int) (SH L, ρ, z_up ν 246 (21 * pt + i) (-1))).bind fun q6 => f_Mo_parse_71 N 233 (pt : Int) (enI en) (n : Int) (lv : Int) (gr : Int) q6.1 q6.2 else f_Mo_parse_71 N 233 (pt : Int) (enI en) (n : Int) (lv : Int) (gr : Int) (-1) (SH L, ρ, z_up ν 246 (21 * pt + i) (-1)) := by
    intro em
    unfold f_Mo_parse_327 f_Mo_parse_351 f_Mo_parse_353
    rw [zck_k s_233, Option.bind_some]
  by_cases g1 : c i = 94
  · rw [if_pos g1, if_pos (Or.inl g1)]
    exact e327 1
  rw [if_neg g1]
  by_cases g2 : c i = 36
  · rw [if_pos g2, if_pos (Or.inr (Or.inl g2))]
    exact e327 1
  rw [if_neg g2, zck_k s_233, Option.bind_some, e_isRef rm hpt (by omega) i (by omega), ta, Option.bind_some]
  dsimp only
  by_cases g3 : isR c i = 1
  · rw [if_neg (by omega), if_pos (Or.inr (Or.inr g3))]
    exact e327 1
  · have g4 : isR c i = 0 := by
      unfold isR at g3 ⊢
      by_cases z : c i = 92 ∧ 48 ≤ c (i + 1) ∧ c (i + 1) ≤ 57
      · rw [if_pos z] at g3
        exact absurd rfl g3
      · rw [if_neg z]
    rw [if_pos g4, if_neg (show ¬ (c i = 94 ∨ c i = 36 ∨ isR c i = 1) by omega)]
    exact e327 0
end Tra
