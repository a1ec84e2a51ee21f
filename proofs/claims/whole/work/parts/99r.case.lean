/-! A case out of two heaps; find -/
theorem Rel.fr {ρ : Nat → Nat → Nat} {μ ν μ' ν' : Nat → Nat → Int} (h : Rel ρ μ ν) (dc : Dc ρ) (h1 : ∀ c j, 1 ≤ c → c < 233 → c < 24 ∨ 36 ≤ c → μ' c j = μ c j) (h24 : μ' 24 1 = μ 24 1) (h32 : μ' 32 0 = μ 32 0)
    (h2 : ∀ c j, (234 ≤ c ∧ c ≤ 251) ∨ (256 ≤ c ∧ c ≤ 262) ∨ 269 ≤ c → ν' c j = ν c j) (h3 : ∀ j, j < 21 ∨ (27 ≤ j ∧ j < 44) ∨ 46 < j → ν' 233 j = ν 233 j) (h4 : ∀ j, j < 6 → ν' 263 j = ν 263 j) (h5 : ∀ j, j < 30 → ν' 264 j = ν 264 j) (h6 : ∀ j, j < 60 → ν' 265 j = ν 265 j) (h7 : ∀ j, j < 1440 → ν' 266 j = ν 266 j) : Rel ρ μ' ν' := by
  obtain ⟨rd, rr, rl, rt, rb, rn, rp⟩ := h
  have r9 := rr.2.1
  refine ⟨?_, ?_, ?_, ?_, ?_, ?_, ?_⟩
  · exact rd.fr (h1 _ _ (by omega) (by omega) (by omega)) (fun j => h1 _ _ (by omega) (by omega) (by omega)) (h3 _ (by omega)) (fun j => h2 _ _ (by omega))
  · exact rr.fr h24 (fun r j off g1 g2 => h1 _ _ (by omega) (by omega) (by omega)) (fun r g1 => h1 _ _ (by omega) (by omega) (by omega)) (h3 _ (by omega)) (fun c j g1 g2 => h2 _ _ (by omega)) (fun j hj => ⟨h2 _ _ (by omega), h2 _ _ (by omega)⟩) (fun c j g1 g2 g3 => h2 _ _ (by omega))
  · exact rl.fr dc (h1 _ _ (by omega) (by omega) (by omega)) (h1 _ _ (by omega) (by omega) (by omega)) h24 (fun r g1 => h1 _ _ (by omega) (by omega) (by omega)) (fun c j g1 g2 => h1 _ _ (by omega) (by omega) (by omega)) (h3 _ (by omega)) (h3 _ (by omega)) (fun c j g1 g2 => h2 _ _ (by omega)) h4 h5 h6 h7
  · exact rt.fr (h1 _ _ (by omega) (by omega) (by omega)) (fun c j g1 g2 => h1 _ _ (by omega) (by omega) (by omega)) (h3 _ (by omega)) (fun c j g1 g2 => h2 _ _ (by omega))
  · rw [h3 0 (by omega), h32]
    exact rb
  · rw [h1 16 0 (by omega) (by omega) (by omega)]
    exact rn
  · rw [h1 1 6 (by omega) (by omega) (by omega)]
    exact rp
theorem Rel.co {ρ : Nat → Nat → Nat} {μ ν μ' ν' : Nat → Nat → Int} (h : Rel ρ μ ν) (dc : Dc ρ) (h1 : ∀ c j, 1 ≤ c → c < 233 → μ' c j = μ c j) (h2 : ∀ c j, 233 ≤ c → ν' c j = ν c j) : Rel ρ μ' ν' :=
  h.fr dc (fun c j g1 g2 _ => h1 c j g1 g2) (h1 _ _ (by omega) (by omega)) (h1 _ _ (by omega) (by omega)) (fun c j g => h2 c j (by omega)) (fun j _ => h2 _ _ (by omega)) (fun j _ => h2 _ _ (by omega)) (fun j _ => h2 _ _ (by omega)) (fun j _ => h2 _ _ (by omega)) (fun j _ => h2 _ _ (by omega))
theorem Rel.se {ρ : Nat → Nat → Nat} {μ ν μ' ν' : Nat → Nat → Int} (h : Rel ρ μ ν) (dc : Dc ρ) (h1 : FrC μ μ') (h2 : FrM ν ν') : Rel ρ μ' ν' :=
  h.fr dc (fun c j g1 g2 g3 => h1.1 c j (by omega)) (h1.1 _ _ (by omega)) h1.2 (fun c j g => h2.1 c j (by omega) (by omega) (by omega)) (fun j g => h2.2 _ (by omega)) (fun j _ => h2.1 _ _ (by omega) (by omega) (by omega)) (fun j _ => h2.1 _ _ (by omega) (by omega) (by omega)) (fun j _ => h2.1 _ _ (by omega) (by omega) (by omega)) (fun j _ => h2.1 _ _ (by omega) (by omega) (by omega))
/-- a call of the class: the script and the model's cells stay -/
def FrB (μ μ' : Nat → Nat → Int) : Prop := ∀ c j, c = 0 ∨ 233 ≤ c → μ' c j = μ c j
/-- a call of the model: the script and the class's cells stay -/
def FrD (ν ν' : Nat → Nat → Int) : Prop := ∀ c j, c < 233 → ν' c j = ν c j
theorem FrB.trans {a b c : Nat → Nat → Int} (h : FrB a b) (g : FrB b c) : FrB a c := fun x j hx => (g x j hx).trans (h x j hx)
theorem FrD.trans {a b c : Nat → Nat → Int} (h : FrD a b) (g : FrD b c) : FrD a c := fun x j hx => (g x j hx).trans (h x j hx)
theorem FrC.b {μ μ' : Nat → Nat → Int} (h : FrC μ μ') : FrB μ μ' := fun c j hc => h.1 c j (by omega)
theorem FrM.d {μ μ' : Nat → Nat → Int} (h : FrM μ μ') : FrD μ μ' := fun c j hc => h.1 c j (by omega) (by omega) (by omega)
theorem CaseR.two {L : Nat} {fS fM : zH → Option (Int × zH)} (T : ∀ (ρ : Nat → Nat → Nat) (μ ν : Nat → Nat → Int), Rc ρ → Rm ρ → Dc ρ → Rel ρ μ ν → ∃ (a : Int) (ρ1 : Nat → Nat → Nat) (μ1 ν1 : Nat → Nat → Int), fS (SH L, ρ, μ) = some (a, (SH L, ρ1, μ1)) ∧ fM (SH L, ρ1, ν) = some (a, (SH L, ρ1, ν1)) ∧ FrB μ μ1 ∧ FrD ν ν1 ∧ (Rc ρ1 ∧ Rm ρ1 ∧ Dc ρ1) ∧ Rel ρ1 μ1 ν1) : CaseR L fS fM := by
  intro ρ μ ⟨rc, rm, dc, hr⟩
  obtain ⟨a, ρ1, μ1, ν1, e1, e2, b1, d1, -, -⟩ := T ρ μ μ rc rm dc hr
  have hr' : Rel ρ μ μ1 := hr.co dc (fun _ _ _ _ => rfl) (fun c j h => b1 c j (Or.inr h))
  obtain ⟨a', ρ1', μ1', ν2, e1', e2', b2, d2, ⟨rc1, rm1, dc1⟩, hr2⟩ := T ρ μ μ1 rc rm dc hr'
  have q := Option.some.inj (e1.symm.trans e1')
  have q1 : a = a' := congrArg Prod.fst q
  have q2 : ρ1 = ρ1' := congrArg (fun x => x.2.2.1) q
  have q3 : μ1 = μ1' := congrArg (fun x => x.2.2.2) q
  subst q1 q2 q3
  exact ⟨a, ρ1, μ1, ν2, e1, e2', ⟨rc1, rm1, dc1, hr2.co dc1 (fun c j _ h => d2 c j h) (fun _ _ _ => rfl)⟩, fun j => b1 0 j (Or.inl rfl), fun j => (d2 0 j (by omega)).trans (b1 0 j (Or.inl rfl))⟩
theorem CaseR.two0 {L : Nat} {fS fM : zH → Option (Int × zH)} (T : ∀ (ρ : Nat → Nat → Nat) (μ ν : Nat → Nat → Int), Rc ρ → Rm ρ → Dc ρ → Rel ρ μ ν → ∃ (a : Int) (μ1 ν1 : Nat → Nat → Int), fS (SH L, ρ, μ) = some (a, (SH L, ρ, μ1)) ∧ fM (SH L, ρ, ν) = some (a, (SH L, ρ, ν1)) ∧ FrB μ μ1 ∧ FrD ν ν1 ∧ Rel ρ μ1 ν1) : CaseR L fS fM :=
  CaseR.two fun ρ μ ν rc rm dc hr => by
    obtain ⟨a, μ1, ν1, e1, e2, b1, d1, h1⟩ := T ρ μ ν rc rm dc hr
    exact ⟨a, ρ, μ1, ν1, e1, e2, b1, d1, ⟨rc, rm, dc⟩, h1⟩
theorem stOk_0 {μ : Nat → Nat → Int} {s : Nat} (h : μ s 0 = 0) : stOk μ s := ⟨by omega, by omega, fun j hj => by omega⟩
theorem s_pt {L r : Nat} (hr : r < 11) : ptS L (37 + 13 * r) := by
  rw [show 37 + 13 * r = 36 + 13 * r + 1 by omega]
  exact ⟨sr_1 hr, sr_2 hr, sr_3 hr, sr_4 hr, sr_5 hr, sr_6 hr⟩
theorem s_pe {L r : Nat} (hr : r < 11) : ptS L (43 + 13 * r) := by
  rw [show 43 + 13 * r = 36 + 13 * r + 7 by omega]
  exact ⟨sr_7 hr, sr_8 hr, sr_9 hr, sr_10 hr, sr_11 hr, sr_12 hr⟩
theorem r_pt {ρ : Nat → Nat → Nat} (rc : Rc ρ) {r : Nat} (hr : r < 11) : ptR ρ (37 + 13 * r) ∧ ptR ρ (43 + 13 * r) ∧ ρ 25 r = 36 + 13 * r ∧ ρ (36 + 13 * r) 0 = 37 + 13 * r ∧ ρ (36 + 13 * r) 1 = 43 + 13 * r := by
  obtain ⟨e, a, b, c, d⟩ := rc.2.2.2.2.2.2.1 r hr
  rw [show 37 + 13 * r = 36 + 13 * r + 1 by omega, show 43 + 13 * r = 36 + 13 * r + 7 by omega]
  exact ⟨c, d, e, a, b⟩
theorem e_rule {L : Nat} {ρ : Nat → Nat → Nat} {μ : Nat → Nat → Int} {r : Nat} (pr3 : ρ 25 r = 36 + 13 * r) (hr : r < 11) : z_aR (SH L, ρ, μ) 24 25 (r : Int) = some (36 + 13 * r) := zaR_k s_25 (by omega) (by omega) (by rw [Int.toNat_natCast]; exact pr3) (by omega)
theorem c_find (L : Nat) (r k p w : Int) : CaseR L (f_SL_find 1 r k p w) (f_Mo_find 233 r k p w) := CaseR.two0 fun ρ μ ν rc rm dc hr => by
  obtain ⟨rd, ⟨r0, r9, re, -, -, rp, -⟩, ⟨l0, l6, le, -, hl⟩, rt, ⟨rb, b10, b3⟩, rn, -⟩ := id hr
  have dn : ∀ a : Int, ∃ (a' : Int) (μ1 ν1 : Nat → Nat → Int), some (a, (SH L, ρ, μ)) = some (a', (SH L, ρ, μ1)) ∧ some (a, (SH L, ρ, ν)) = some (a', (SH L, ρ, ν1)) ∧ FrB μ μ1 ∧ FrD ν ν1 ∧ Rel ρ μ1 ν1 := fun a => ⟨a, μ, ν, rfl, rfl, fun _ _ _ => rfl, fun _ _ _ => rfl, hr⟩
  unfold f_SL_find f_Mo_find
  by_cases h1 : r < 1
  · rw [if_pos h1, if_pos h1]
    exact dn _
  rw [if_neg h1, if_neg h1, zgR_k s_1 rc.1.2.2.1 (by decide), Option.bind_some, zgI_k s_24, Option.bind_some, zgI_k s_233, Option.bind_some, re]
  by_cases h2 : μ 24 1 < r
  · rw [if_pos h2, if_pos h2]
    exact dn _
  rw [if_neg h2, if_neg h2, zck_k s_1, Option.bind_some, e_isLineS, Option.bind_some, zck_k s_233, Option.bind_some, e_isLineM, Option.bind_some, le]
  dsimp only
  by_cases hk : ¬ (0 ≤ k ∧ k < μ 1 5)
  · rw [if_neg hk, if_pos rfl, if_pos rfl]
    exact dn _
  have hk := Classical.not_not.mp hk
  rw [if_pos hk, if_neg (show ¬ (1 : Int) = 0 by decide), if_neg (show ¬ (1 : Int) = 0 by decide)]
  obtain ⟨r, rfl⟩ : ∃ n : Nat, r = n := ⟨r.toNat, by omega⟩
  obtain ⟨k, rfl⟩ : ∃ n : Nat, k = n := ⟨k.toNat, by omega⟩
  by_cases h3 : p < 0
  · rw [if_pos h3, if_pos h3]
    exact dn _
  obtain ⟨q, hq, e⟩ := dc.1 k (by omega)
  have hln := hl k (by omega)
  rw [e] at hln
  obtain ⟨⟨n0, n24, ne, nt⟩, -⟩ := id hln
  rw [if_neg h3, if_neg h3, zgR_k s_1 rc.1.2.2.2.1 (by decide), Option.bind_some, e_doc hq hk.1 (by omega) (by rw [Int.toNat_natCast]; exact e), Option.bind_some, zgI_k (sl_0 hq), Option.bind_some]
  by_cases h4 : w < 0
  · rw [if_pos h4, if_pos h4]
    by_cases h5 : μ (179 + 9 * q) 1 < p
    · rw [if_pos h5]
      exact dn _
    · rw [if_neg h5]
      exact dn _
  rw [if_neg h4, if_neg h4]
  by_cases h5 : ¬ (w ≤ 8)
  · rw [if_neg h5, if_neg h5]
    by_cases h5 : μ (179 + 9 * q) 1 < p
    · rw [if_pos h5]
      exact dn _
    · rw [if_neg h5]
      exact dn _
  have h5 := Classical.not_not.mp h5
  rw [if_pos h5, if_pos h5, zgR_k s_233 (m_32 rm) (by decide), Option.bind_some, zaI_k s_256 (by omega) (by omega), Option.bind_some, Int.toNat_natCast, ne]
  by_cases h6 : μ (179 + 9 * q) 1 < p
  · rw [if_pos h6, if_neg (show ¬ p ≤ μ (179 + 9 * q) 1 by omega)]
    exact dn _
  rw [if_neg h6, if_pos (show p ≤ μ (179 + 9 * q) 1 by omega)]
  obtain ⟨pr1, pr2, pr3, pr4, pr5⟩ := r_pt rc (show r < 11 by omega)
  obtain ⟨-, -, -, -, ⟨hn, γ, hg⟩, -⟩ := rp r (by omega) (by omega)
  have S : Sta L ρ μ ν (37 + 13 * r) (2 * r) (179 + 9 * q) k 16 false γ := ⟨⟨rc, rm⟩, ⟨s_pt (by omega), pr1, by omega⟩, ⟨s_ln hq, rc.2.2.2.2.2.2.2 q hq, by omega⟩, ⟨s_st16, rc.2.2.2.1.1, by omega, stOk_0 rn⟩, ⟨by omega, by omega⟩, ⟨⟨n0, n24, fun c hc => (nt c hc).2⟩, ne, fun c hc => (nt c hc).1⟩, ⟨by omega, b3, rb⟩, ⟨hn, hg⟩, fun h => by cases h⟩
  obtain ⟨μ1, ν1, s1, s2, f1, f2, so⟩ := search S (fr := p) (by omega) (by omega)
  have e2 : zw (2 * (r : Int)) = ((2 * r : Nat) : Int) := by
    rw [zw_of (by omega) (by omega)]
    omega
  have a1 : z_gR (SH L, ρ, μ) 0 1 3 = some 24 := zgR_k s_1 rc.1.2.2.1 (by decide)
  have a2 : z_gR (SH L, ρ, μ) 8 24 2 = some 32 := zgR_k s_24 rc.2.2.2.2.1.2.1 (by decide)
  have a3 : z_gR (SH L, ρ, μ) 8 24 0 = some 25 := zgR_k s_24 rc.2.2.2.2.1.1 (by decide)
  have a4 : z_aR (SH L, ρ, μ) 24 25 (r : Int) = some (36 + 13 * r) := zaR_k s_25 (by omega) (by omega) (by rw [Int.toNat_natCast]; exact pr3) (by omega)
  have a5 : z_gR (SH L, ρ, μ) 7 (36 + 13 * r) 0 = some (37 + 13 * r) := zgR_k (sr_0 (by omega)) pr4 (by omega)
  have a6 : z_gR (SH L, ρ, μ) 0 1 4 = some 11 := zgR_k s_1 rc.1.2.2.2.1 (by decide)
  have a7 : z_aR (SH L, ρ, μ) 25 11 (k : Int) = some (179 + 9 * q) := e_doc hq hk.1 (by omega) (by rw [Int.toNat_natCast]; exact e)
  have a8 : z_gR (SH L, ρ, μ) 0 1 8 = some 16 := zgR_k s_1 rc.1.2.2.2.2.2.1 (by decide)
  have a9 : z_ck (SH L, ρ, μ) 6 32 = some 12 := zck_k s_32
  simp only [a1, a2, a3, a4, a5, a6, a7, a8, a9, Option.bind_some, s1, zck_k s_233, e2, s2]
  have fin : ∀ a : Int, ∃ (a' : Int) (μ' ν' : Nat → Nat → Int), some (a, (SH L, ρ, μ1)) = some (a', (SH L, ρ, μ')) ∧ some (a, (SH L, ρ, ν1)) = some (a', (SH L, ρ, ν')) ∧ FrB μ μ' ∧ FrD ν ν' ∧ Rel ρ μ' ν' := fun a => ⟨a, μ1, ν1, rfl, rfl, f1.b, f2.d, hr.se dc f1 f2⟩
  obtain ⟨o1, -, -, o2, o3, o4⟩ := so
  by_cases h7 : w = 2
  · rw [if_pos h7, if_pos h7, zgI_k s_32, Option.bind_some, zgI_k s_233, Option.bind_some, o1]
    exact fin _
  rw [if_neg h7, if_neg h7, zgI_k s_32, Option.bind_some, zgI_k s_233, Option.bind_some, o2]
  obtain ⟨p1, p2, p3, p4, p5, p6⟩ | ⟨p1, p2, p3⟩ := o4
  · rw [if_pos p1, if_pos p1, zgI_k s_233, Option.bind_some, o3, if_pos (show 0 ≤ μ1 32 2 by omega)]
    by_cases h8 : w = 0
    · rw [if_pos h8, if_neg (show ¬ 2 ≤ w by omega), if_pos h8, zgI_k s_32, Option.bind_some, Option.bind_some]
      exact fin _
    rw [if_neg h8]
    by_cases h9 : w = 1
    · rw [if_neg (show ¬ 2 ≤ w by omega), if_neg h8, if_pos h9, zgI_k s_32, Option.bind_some, zgI_k s_233, Option.bind_some, p5]
      exact fin _
    rw [if_neg h9, if_pos (show 2 ≤ w by omega), if_neg h8, zgI_k s_32, Option.bind_some, if_neg (show ¬ μ1 32 2 = -1 by omega), zgR_k s_32 rc.2.2.2.2.2.1.1 (by decide), Option.bind_some, zw_of (by omega) (by omega), zaI_k s_33 (by omega) (by omega), Option.bind_some, zgR_k s_233 (m_25 rm) (by decide), Option.bind_some, zaI_k s_252 (by omega) (by omega), Option.bind_some, (p6 _ (by omega)).1]
    exact fin _
  · obtain p1 | p1 := p1
    · rw [if_pos p1, if_pos p1, zgI_k s_233, Option.bind_some, o3, p2, if_neg (show ¬ (0 : Int) ≤ -1 by decide)]
      unfold f_Mo_find_85
      rw [zgI_k s_233, Option.bind_some, o2, if_pos p1]
      by_cases h8 : 2 ≤ w
      · rw [if_pos h8, zgI_k s_32, Option.bind_some, if_pos p2]
        exact fin _
      rw [if_neg h8]
      by_cases h9 : w = 0
      · rw [if_pos h9, zgI_k s_32, Option.bind_some, p2]
        exact fin _
      · rw [if_neg h9, zgI_k s_32, Option.bind_some, p3]
        exact fin _
    · rw [if_neg (show ¬ μ1 32 5 = 0 by omega), if_neg (show ¬ μ1 32 5 = 0 by omega)]
      unfold f_Mo_find_85
      rw [zgI_k s_233, Option.bind_some, o2, if_neg (show ¬ μ1 32 5 = 0 by omega)]
      exact fin _
