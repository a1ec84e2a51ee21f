/-! One line of the document anew -/
def pz (x : Int) : Int := zw (x + 1)
/-- the count of passes is x: kept in a name of its own -/
def P31 (ν : Nat → Nat → Int) (x : Int) : Prop := ν 233 31 = x
def P16 (μ : Nat → Nat → Int) (x : Int) : Prop := μ 1 6 = x
theorem pz_def (x : Int) : pz x = zw (x + 1) := by rw [pz]
theorem OI.pa {μ ν : Nat → Nat → Int} {u k s : Nat} (h : OI μ ν u k s) (x : Int) : OI μ (z_up ν 233 31 x) u k s := by
  obtain ⟨rr, rb, rl, rs⟩ := h
  refine ⟨rr.fr rfl (fun r j off g1 g2 => rfl) (fun r g1 => rfl) (z_up_nj (by decide)) (fun c j g1 g2 => z_up_ne (by omega)) (fun j hj => ⟨z_up_ne (by decide), z_up_ne (by decide)⟩) (fun c j g1 g2 g3 => z_up_ne (by omega)), ?_, ?_, ?_⟩
  · rw [z_up_nj (by decide)]
    exact rb
  · exact rl.fr (fun _ _ _ _ _ => rfl) (z_up_ne (by decide)) (fun j _ _ => z_up_ne (by decide))
  · obtain ⟨h1, h2, h3⟩ | ⟨h1, h2, v, v1, v2, v3⟩ := rs
    · exact Or.inl ⟨h1, h2, h3⟩
    · exact Or.inr ⟨h1, h2.fr (fun _ _ _ _ => rfl) rfl (fun _ _ => rfl) (z_up_ne (by decide)) (fun j _ _ => z_up_ne (by decide)) (fun j _ _ => z_up_ne (by decide)) (fun j _ _ => z_up_ne (by decide)), v, v1, v2, v3⟩
section Lin
variable {L : Nat} {ρ : Nat → Nat → Nat} {u k : Nat}
theorem tok_both (rc : Rc ρ) (rm : Rm ρ) (hu : u < 6) (hk : k < 6) {s : Nat} {μ ν : Nat → Nat → Int} (oi : OI μ ν u k s) : ∃ μ' ν', f_Gr_tokenize 24 (179 + 9 * u) s (SH L, ρ, μ) = some (SH L, ρ, μ') ∧ f_Mo_tokenize 233 (k : Int) (SH L, ρ, ν) = some (SH L, ρ, ν') ∧ TFC u μ μ' ∧ (TFM k ν ν' ∧ P31 ν' (pz (ν 233 31))) ∧ RLn μ' ν' (179 + 9 * u) k := by
  have oia := oi.pa (pz (ν 233 31))
  have l24 := oi.2.2.1.1.2.1
  have l0 := oi.2.2.1.1.1
  have upb : ∀ c j, ¬ ((c = 258 ∨ c = 259) ∧ j = k) → z_up (z_up (z_up ν 233 31 (pz (ν 233 31))) 259 k 0) 258 k 0 c j = z_up ν 233 31 (pz (ν 233 31)) c j := by
    intro c j h
    rw [z_up, if_neg (by omega), z_up, if_neg (by omega)]
  have bMb : BFM k (z_up ν 233 31 (pz (ν 233 31))) (z_up (z_up (z_up ν 233 31 (pz (ν 233 31))) 259 k 0) 258 k 0) := ⟨fun c j g => upb c j (by omega), fun j g => upb _ j (by omega), fun c j g1 g2 => upb c j (by omega), fun c j g1 g2 => upb c j (by omega), fun j g => upb _ j (by omega), fun j g => upb _ j (by omega), fun j g => upb _ j (by omega), fun j g => upb _ j (by omega), fun j g => upb _ j (by omega)⟩
  have oib := oia.fr hk (BFC.refl _ _) bMb
  obtain ⟨μ2, ν2, b1, b2, b3, b4, b5, b6, b7, b8, b9⟩ := begin_both (L := L) rc rm hk (u := u) oib.1 oib.2.2.2
  have bM2 : BFM k (z_up (z_up (z_up ν 233 31 (pz (ν 233 31))) 259 k 0) 258 k 0) ν2 := ⟨fun c j g => b4 c j (by omega), fun j g => b4 _ j (by omega), fun c j g1 g2 => b4 c j (by omega), fun c j g1 g2 => b4 c j (by omega), fun j g => b4 _ j (by omega), b5, b6, b7, b8⟩
  have up3 : ∀ c j, ¬ (c = 179 + 9 * u ∧ (j = 5 ∨ j = 6)) → z_up (z_up μ2 (179 + 9 * u) 5 0) (179 + 9 * u) 6 0 c j = μ2 c j := by
    intro c j h
    rw [z_up, if_neg (by omega), z_up, if_neg (by omega)]
  have bC3 : BFC (179 + 9 * u) μ (z_up (z_up μ2 (179 + 9 * u) 5 0) (179 + 9 * u) 6 0) := ⟨fun c j g1 g2 => (up3 c j (by omega)).trans (b3 c j (by omega)), (up3 _ _ (by omega)).trans (b3 _ _ (by omega)), (up3 _ _ (by omega)).trans (b3 _ _ (by omega)), fun j g1 g2 => (up3 _ _ (by omega)).trans (b3 _ _ (by omega)), fun j => (up3 _ _ (by omega)).trans (b3 _ _ (by omega))⟩
  have oi3 := oib.fr hk bC3 bM2
  have rs3 : RSt (z_up (z_up μ2 (179 + 9 * u) 5 0) (179 + 9 * u) 6 0) ν2 26 6 := b9.fr (fun c j g1 g2 => up3 c j (by omega)) (up3 _ _ (by omega)) (fun r g => up3 _ _ (by omega)) rfl (fun _ _ _ => rfl) (fun _ _ _ => rfl) (fun _ _ _ => rfl)
  have e5 : z_up (z_up μ2 (179 + 9 * u) 5 0) (179 + 9 * u) 6 0 (179 + 9 * u) 5 = 0 := (z_up_nj (by decide)).trans z_up_eq
  have n5 : ν2 259 k = 0 := (b4 _ _ (by omega)).trans ((z_up_ne (by decide)).trans z_up_eq)
  have tk3 : TTk (z_up (z_up μ2 (179 + 9 * u) 5 0) (179 + 9 * u) 6 0) ν2 (179 + 9 * u) k := by
    unfold TTk
    rw [e5, n5]
    exact ⟨by omega, by omega, rfl, fun t ht => by omega⟩
  have e1 : z_up (z_up μ2 (179 + 9 * u) 5 0) (179 + 9 * u) 6 0 (179 + 9 * u) 1 = μ (179 + 9 * u) 1 := (up3 _ _ (by omega)).trans (b3 _ _ (by omega))
  have o5 := rs3.2.1
  obtain ⟨μ', ν', d1, d2, d3, ⟨d4, d5⟩, d6⟩ := tok_loop (L := L) rc rm hu hk (s := s) 54 100000 100000 0 0 0 _ ν2 (by omega) (by omega) (by omega) (by omega) (by omega) (by omega) (by rw [e1]; exact l0) oi3 rs3 tk3 (by rw [e5]; omega) (by
    rw [z_up_eq, b4 258 k (by omega), z_up_eq]
    exact ⟨rfl, Or.inl rfl⟩)
  refine ⟨μ', ν', ?_, ?_, ⟨fun c j x1 x2 => (d3.1 c j x1 x2).trans (bC3.1 c j x1 (by omega)), d3.2.1.trans bC3.2.1, d3.2.2.trans bC3.2.2.1⟩, ⟨?_, ?_⟩, d6⟩
  · unfold f_Gr_tokenize
    rw [zgR_k s_24 rc.2.2.2.2.1.2.2.1 (by decide), Option.bind_some, zck_k s_26, Option.bind_some, b1, Option.bind_some, zpI_k (sl_0 hu), Option.bind_some, zpZ_k (sl_0 hu) (Or.inl rfl), Option.bind_some]
    exact d1
  · unfold f_Mo_tokenize
    rw [zgI_k s_233, Option.bind_some, zpI_k s_233, Option.bind_some, zgR_k s_233 (m_35 rm) (by decide), Option.bind_some, zsI_k s_259 (by omega) (by omega), Option.bind_some, zgR_k s_233 (m_34 rm) (by decide), Option.bind_some, zsI_k s_258 (by omega) (by omega), Option.bind_some, Int.toNat_natCast, show (0 : Int) % 2 = 0 from rfl, ← pz_def, zck_k s_233, Option.bind_some, b2, Option.bind_some]
    exact d2
  · have tM := bMb.trans bM2
    have n31 : ∀ c j, ¬ (c = 233 ∧ j = 31) → z_up ν 233 31 (pz (ν 233 31)) c j = ν c j := by
      intro c j h
      rw [z_up, if_neg h]
    obtain ⟨x1, x2, x3, x4, x5, x6, x7, x8, x9⟩ := d4
    obtain ⟨y1, y2, y3, y4, y5, y6, y7, y8, y9⟩ := tM
    exact ⟨fun c j a => ((x1 c j a).trans (y1 c j a)).trans (n31 c j (by omega)), fun j a => ((x2 j a).trans (y2 j (by omega))).trans (n31 _ j (by omega)), fun c j a b => ((x3 c j a b).trans (y3 c j a b)).trans (n31 c j (by omega)), fun c j a b => ((x4 c j a b).trans (y4 c j a b)).trans (n31 c j (by omega)), fun j a => ((x5 j a).trans (y5 j a)).trans (n31 _ j (by omega)), fun j a b => ((x6 j a b).trans (y6 j a)).trans (n31 _ j (by omega)), fun j a b => ((x7 j a b).trans (y7 j a)).trans (n31 _ j (by omega)), fun j a b => ((x8 j a b).trans (y8 j a)).trans (n31 _ j (by omega)), fun j a b => ((x9 j a b).trans (y9 j a)).trans (n31 _ j (by omega))⟩
  · show ν' 233 31 = _
    rw [d5, b4 233 31 (by omega), upb 233 31 (by omega), z_up_eq]
/-- what stands between two lines that are cut anew -/
def Bas (μ ν : Nat → Nat → Int) : Prop := RRules μ ν ∧ (ν 233 0 = μ 32 0 ∧ 10 ≤ μ 32 0 ∧ μ 32 0 ≤ 300) ∧ μ 16 0 = 0 ∧ (0 ≤ μ 1 5 ∧ μ 1 5 ≤ 6 ∧ ν 233 30 = μ 1 5)
def GFC (μ μ' : Nat → Nat → Int) : Prop := (∀ c j, c < 20 ∨ (36 ≤ c ∧ c < 179) ∨ 233 ≤ c → μ' c j = μ c j) ∧ μ' 24 1 = μ 24 1 ∧ μ' 32 0 = μ 32 0
def GFM (ν ν' : Nat → Nat → Int) : Prop := (∀ c j, c < 233 ∨ (234 ≤ c ∧ c ≤ 251) ∨ c = 256 ∨ c = 257 ∨ 269 ≤ c → ν' c j = ν c j) ∧ ∀ j, j < 21 ∨ (27 ≤ j ∧ j < 31) ∨ (31 < j ∧ j < 44) ∨ 46 < j → ν' 233 j = ν 233 j
theorem GFC.trans {a b c : Nat → Nat → Int} (h : GFC a b) (g : GFC b c) : GFC a c := ⟨fun x j hx => (g.1 x j hx).trans (h.1 x j hx), g.2.1.trans h.2.1, g.2.2.trans h.2.2⟩
theorem GFM.trans {a b c : Nat → Nat → Int} (h : GFM a b) (g : GFM b c) : GFM a c := ⟨fun x j hx => (g.1 x j hx).trans (h.1 x j hx), fun j hj => (g.2 j hj).trans (h.2 j hj)⟩
theorem Bas.fr {μ ν μ' ν' : Nat → Nat → Int} (h : Bas μ ν) (hC : GFC μ μ') (hM : GFM ν ν') : Bas μ' ν' := by
  obtain ⟨rr, rb, rn, l0, l6, le⟩ := h
  have r9 := rr.2.1
  refine ⟨rr.fr hC.2.1 (fun r j off g1 g2 => hC.1 _ _ (by omega)) (fun r g1 => hC.1 _ _ (by omega)) (hM.2 _ (by omega)) (fun c j g1 g2 => hM.1 _ _ (by omega)) (fun j hj => ⟨hM.1 _ _ (by omega), hM.1 _ _ (by omega)⟩) (fun c j g1 g2 g3 => hM.1 _ _ (by omega)), ?_, ?_, ?_⟩
  · rw [hM.2 0 (by omega), hC.2.2]
    exact rb
  · rw [hC.1 16 0 (by omega)]
    exact rn
  · rw [hC.1 1 5 (by omega), hM.2 30 (by omega)]
    exact ⟨l0, l6, le⟩
theorem RLn.t {μ ν : Nat → Nat → Int} {l k : Nat} (h : RLn μ ν l k) : TLn μ ν l k := ⟨⟨h.1.1, h.1.2.1, fun c hc => (h.1.2.2.2 c hc).2⟩, h.1.2.2.1, fun c hc => (h.1.2.2.2 c hc).1⟩
/-- the state in which a line starts -/
def stc (ρ : Nat → Nat → Nat) (i : Nat) : Nat := if i = 0 then 16 else ρ 11 (i - 1) + 5
theorem step_both (rc : Rc ρ) (rm : Rm ρ) (dc : Dc ρ) {i : Nat} {μ ν : Nat → Nat → Int} (hB : Bas μ ν) (hi : (i : Int) < μ 1 5) (hT : TLn μ ν (ρ 11 i) i) (hR : ∀ j : Nat, (j : Int) < μ 1 5 → j ≠ i → RLn μ ν (ρ 11 j) j) : ∃ μ' ν', f_Gr_tokenize 24 (ρ 11 i) (stc ρ i) (SH L, ρ, μ) = some (SH L, ρ, μ') ∧ f_Mo_tokenize 233 (i : Int) (SH L, ρ, ν) = some (SH L, ρ, ν') ∧ (∀ c j, c < 24 ∨ (36 ≤ c ∧ c < 179) ∨ 233 ≤ c → μ' c j = μ c j) ∧ GFC μ μ' ∧ GFM ν ν' ∧ P31 ν' (pz (ν 233 31)) ∧ (ν' 263 7 = ν 263 7 ∧ (∀ j, 35 ≤ j → ν' 264 j = ν 264 j) ∧ (∀ j, 70 ≤ j → ν' 265 j = ν 265 j) ∧ ∀ j, 1680 ≤ j → ν' 266 j = ν 266 j) ∧ ∀ j : Nat, (j : Int) < μ 1 5 → RLn μ' ν' (ρ 11 j) j := by
  obtain ⟨rr, rb, rn, l0, l6, le⟩ := id hB
  have r9 := rr.2.1
  obtain ⟨u, hu, eu⟩ := dc.1 i (by omega)
  rw [eu] at hT ⊢
  have oi : OI μ ν u i (stc ρ i) := by
    refine ⟨rr, rb, hT, ?_⟩
    unfold stc
    by_cases h0 : i = 0
    · rw [if_pos h0]
      exact Or.inl ⟨h0, rfl, rn⟩
    · rw [if_neg h0]
      obtain ⟨v, hv, ev⟩ := dc.1 (i - 1) (by omega)
      have hr := hR (i - 1) (by omega) (by omega)
      refine Or.inr ⟨by omega, hr.2.2.2, v, hv, fun e => ?_, by omega⟩
      subst e
      have := dc.2 i (i - 1) (by omega) (by omega) (eu.trans ev.symm)
      omega
  obtain ⟨μ', ν', a1, a2, ⟨c1, c2, c3⟩, ⟨⟨m1, m2, m3, m4, m5, m6, m7, m8, m9⟩, a5⟩, a6⟩ := tok_both (L := L) rc rm hu (show i < 6 by omega) oi
  refine ⟨μ', ν', a1, a2, fun c j h => c1 c j (by omega) (by omega), ⟨fun c j h => c1 c j (by omega) (by omega), c2, c3⟩, ⟨m1, m2⟩, a5, ⟨m6 7 (by omega) (by omega), fun j h => m7 j (by omega) (by omega), fun j h => m8 j (by omega) (by omega), fun j h => m9 j (by omega) (by omega)⟩, fun j hj => ?_⟩
  by_cases hji : j = i
  · rw [hji, eu]
    exact a6
  · obtain ⟨v, hv, ev⟩ := dc.1 j (by omega)
    have hvu : v ≠ u := by
      intro e
      subst e
      exact hji (dc.2 j i (by omega) (by omega) (ev.trans eu.symm))
    have hr := hR j hj hji
    rw [ev] at hr ⊢
    refine hr.fr (fun c j' g1 g2 => c1 c j' (by omega) (by omega)) c2 (fun r g => c1 _ _ (by omega) (by omega)) (fun c hc => ?_) (fun c j' hc g1 g2 => ?_) (fun j' g1 g2 => m5 j' (by omega)) (fun j' g1 g2 => m7 j' (by omega) (by omega)) (fun j' g1 g2 => m8 j' (by omega) (by omega)) (fun j' g1 g2 => m9 j' (by omega) (by omega))
    · obtain rfl | rfl | rfl | rfl := hc
      · exact m1 _ _ (by omega)
      · exact m3 _ _ (by omega) hji
      · exact m3 _ _ (by omega) hji
      · exact m6 _ (by omega) hji
    · obtain rfl | rfl | rfl := hc
      · exact m1 _ _ (by omega)
      · exact m4 _ _ (by omega) (by omega)
      · exact m4 _ _ (by omega) (by omega)
end Lin
