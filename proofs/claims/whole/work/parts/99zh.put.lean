/-! put -/
theorem m_put72 {L : Nat} {ρ : Nat → Nat → Nat} (rm : Rm ρ) {k D : Nat} (hk : k < 6) (hD : D ≤ 24) : ∀ (m N c : Nat) (ν : Nat → Nat → Int), c + m = D → m < N → ν 233 1 = D → ∃ ν', f_Mo_put_72 N 233 (k : Int) (c : Int) (SH L, ρ, ν) = (f_Mo_refresh 233 (k : Int) (SH L, ρ, z_up ν' 233 1 0)).bind (fun q4 => some (q4.1, q4.2)) ∧ (∀ a i, a ≠ 257 → ν' a i = ν a i) ∧ (∀ i, ¬ (24 * k + c ≤ i ∧ i < 24 * k + D) → ν' 257 i = ν 257 i) ∧ ∀ i, c ≤ i → i < D → ν' 257 (24 * k + i) = ν 234 i := by
  intro m
  induction m with
  | zero =>
    intro N c ν hc hN h1
    obtain ⟨N, rfl⟩ : ∃ k, N = k + 1 := ⟨N - 1, by omega⟩
    refine ⟨ν, ?_, fun _ _ _ => rfl, fun _ _ => rfl, fun i g1 g2 => by omega⟩
    rw [f_Mo_put_72]
    show (z_gI _ _ _ _).bind _ = _
    rw [zgI_k s_233, Option.bind_some, h1, if_pos (by omega), zpI_k s_233, Option.bind_some, zck_k s_233, Option.bind_some]
  | succ m ih =>
    intro N c ν hc hN h1
    obtain ⟨N, rfl⟩ : ∃ k, N = k + 1 := ⟨N - 1, by omega⟩
    obtain ⟨ν', e1, e2, e3, e4⟩ := ih N (c + 1) (z_up ν 257 (24 * k + c) (ν 234 c)) (by omega) (by omega) ((z_up_ne (by decide)).trans h1)
    refine ⟨ν', ?_, fun a i h => (e2 a i h).trans (z_up_ne h), fun i h => (e3 i (by omega)).trans (z_up_nj (by omega)), fun i g1 g2 => ?_⟩
    · have t1 : (24 * (k : Int) + (c : Int)).toNat = 24 * k + c := by omega
      rw [f_Mo_put_72]
      show (z_gI _ _ _ _).bind _ = _
      rw [zgI_k s_233, Option.bind_some, h1, if_neg (by omega), zgR_k s_233 (m_33 rm) (by decide), Option.bind_some, zgR_k s_233 (m_2 rm) (by decide), Option.bind_some, zaI_k s_234 (by omega) (by omega), Option.bind_some, Int.toNat_natCast, zw_of (x := 24 * (k : Int)) (by omega) (by omega), zw_of (x := 24 * (k : Int) + (c : Int)) (by omega) (by omega), zsI_k s_257 (by omega) (by omega), Option.bind_some, t1, zw_of (by omega) (by omega)]
      rw [show ((c + 1 : Nat) : Int) = (c : Int) + 1 by omega] at e1
      exact e1
    · by_cases hi : i = c
      · subst hi
        rw [e3 _ (by omega), z_up_eq]
      · rw [e4 i (by omega) g2, z_up_ne (by decide)]
theorem c_put (L : Nat) (k : Int) : CaseR L (f_SL_put 1 k) (f_Mo_put 233 k) := CaseR.two0 fun ρ μ ν rc rm dc hr => by
  obtain ⟨⟨d0, d40, de, dd⟩, rr, ⟨l0, l6, le, lp, hl⟩, rt, rb, rn, rp0, rp1⟩ := id hr
  have r9 := rr.2.1
  have dn : ∀ a : Int, ∃ (a' : Int) (μ1 ν1 : Nat → Nat → Int), some (a, (SH L, ρ, μ)) = some (a', (SH L, ρ, μ1)) ∧ some (a, (SH L, ρ, ν)) = some (a', (SH L, ρ, ν1)) ∧ FrB μ μ1 ∧ FrD ν ν1 ∧ Rel ρ μ1 ν1 := fun a => ⟨a, μ, ν, rfl, rfl, fun _ _ _ => rfl, fun _ _ _ => rfl, hr⟩
  unfold f_SL_put f_Mo_put
  by_cases h1 : k < 0
  · rw [if_pos h1, if_pos h1]
    exact dn _
  rw [if_neg h1, if_neg h1, zgI_k s_1, Option.bind_some, zgI_k s_233, Option.bind_some, le]
  by_cases h2 : ¬ k ≤ μ 1 5
  · rw [if_neg h2, if_neg h2]
    exact dn _
  have h2 := Classical.not_not.mp h2
  rw [if_pos h2, if_pos h2, zgI_k s_1, Option.bind_some, zgI_k s_233, Option.bind_some, de]
  by_cases h3 : ¬ μ 1 1 ≤ 24
  · rw [if_neg h3, if_neg h3]
    exact dn _
  have h3 := Classical.not_not.mp h3
  rw [if_pos h3, if_pos h3]
  by_cases h4 : k = 6
  · rw [if_pos h4, if_pos h4]
    exact dn _
  rw [if_neg h4, if_neg h4]
  obtain ⟨k, rfl⟩ : ∃ n : Nat, k = n := ⟨k.toNat, by omega⟩
  obtain ⟨D, hD⟩ : ∃ n : Nat, μ 1 1 = n := ⟨(μ 1 1).toNat, by omega⟩
  obtain ⟨u, hu, eu⟩ := dc.1 k (by omega)
  have lr := rc.2.2.2.2.2.2.2 u hu
  -- the class: the line's characters and size, the draft, the count of lines
  have upC : ∀ c j, c ≠ 180 + 9 * u → ¬ (c = 179 + 9 * u ∧ j = 1) → ¬ (c = 1 ∧ (j = 1 ∨ j = 5)) → z_up (z_up (z_up (cpU μ 2 (179 + 9 * u + 1) D) (179 + 9 * u) 1 (D : Int)) 1 1 0) 1 5 (z_max (μ 1 5) ((k : Int) + 1)) c j = μ c j := by
    intro c j g1 g2 g3
    rw [z_up, if_neg (by omega), z_up, if_neg (by omega), z_up, if_neg (by omega), cpU_ne (by omega)]
  have upT : ∀ j, j < D → z_up (z_up (z_up (cpU μ 2 (179 + 9 * u + 1) D) (179 + 9 * u) 1 (D : Int)) 1 1 0) 1 5 (z_max (μ 1 5) ((k : Int) + 1)) (179 + 9 * u + 1) j = μ 2 j := by
    intro j hj
    rw [z_up_ne (by omega), z_up_ne (by omega), z_up_ne (by omega), cpU_lt hj]
  have upN : z_up (z_up (z_up (cpU μ 2 (179 + 9 * u + 1) D) (179 + 9 * u) 1 (D : Int)) 1 1 0) 1 5 (z_max (μ 1 5) ((k : Int) + 1)) (179 + 9 * u) 1 = D := by
    rw [z_up_ne (by omega), z_up_ne (by omega), z_up_eq]
  have up1 : z_up (z_up (z_up (cpU μ 2 (179 + 9 * u + 1) D) (179 + 9 * u) 1 (D : Int)) 1 1 0) 1 5 (z_max (μ 1 5) ((k : Int) + 1)) 1 1 = 0 := by
    rw [z_up_nj (by decide), z_up_eq]
  have up5 : z_up (z_up (z_up (cpU μ 2 (179 + 9 * u + 1) D) (179 + 9 * u) 1 (D : Int)) 1 1 0) 1 5 (z_max (μ 1 5) ((k : Int) + 1)) 1 5 = z_max (μ 1 5) ((k : Int) + 1) := z_up_eq
  have eC : ((z_gR (SH L, ρ, μ) 0 1 4).bind fun v3 => (z_aR (SH L, ρ, μ) 25 v3 (k : Int)).bind fun v4 => (z_gR (SH L, ρ, μ) 0 1 0).bind fun v5 => (z_gI (SH L, ρ, μ) 0 1 1).bind fun v6 => (z_ck (SH L, ρ, μ) 2 v4).bind fun _ => (f_Li_write v4 v5 v6 (SH L, ρ, μ)).bind fun h8 => (z_pI h8 0 1 1 0).bind fun h9 => (z_gI h9 0 1 5).bind fun v10 => (z_pI h9 0 1 5 (z_max v10 (zw ((k : Int) + 1)))).bind fun h11 => (z_ck h11 0 1).bind fun _ => (f_SL_tokenizeFrom 1 (k : Int) 0 h11).bind fun q13 => some (q13.1, q13.2)) = (f_SL_tokenizeFrom 1 (k : Int) 0 (SH L, ρ, z_up (z_up (z_up (cpU μ 2 (179 + 9 * u + 1) D) (179 + 9 * u) 1 (D : Int)) 1 1 0) 1 5 (z_max (μ 1 5) ((k : Int) + 1)))).bind fun q13 => some (q13.1, q13.2) := by
    unfold f_Li_write
    rw [zgR_k s_1 rc.1.2.2.2.1 (by decide), Option.bind_some, e_doc hu (by omega) (by omega) (by rw [Int.toNat_natCast]; exact eu), Option.bind_some, zgR_k s_1 rc.1.1 (by decide), Option.bind_some, zgI_k s_1, Option.bind_some, hD, zck_k (sl_0 hu), Option.bind_some, zgR_k (sl_0 hu) lr.1 (by omega), Option.bind_some, zcp0 D s_2 (sl_1 hu) rfl (by omega) (by omega), Option.bind_some, zpI_k (sl_0 hu), Option.bind_some, Option.bind_some, zpI_k s_1, Option.bind_some, zgI_k s_1, Option.bind_some, z_up_nj (by decide), z_up_ne (by omega), cpU_ne (by omega), zw_of (by omega) (by omega), zpI_k s_1, Option.bind_some, zck_k s_1, Option.bind_some]
  -- the model
  have eM : ∃ νa νb, (if (k : Int) = μ 1 5 then (some (μ 1 5)).bind (fun v16 => (z_pI (SH L, ρ, ν) 9 233 30 (zw (v16 + 1))).bind fun h17 => (z_gR h17 9 233 39).bind fun v18 => (z_sI h17 20 v18 (k : Int) (-1)).bind fun h19 => f_Mo_put_60 233 (k : Int) h19) else f_Mo_put_60 233 (k : Int) (SH L, ρ, ν)) = (f_Mo_refresh 233 (k : Int) (SH L, ρ, νb)).bind (fun q4 => some (q4.1, q4.2)) ∧ νb = z_up νa 233 1 0 ∧ νa 256 k = D ∧ (∀ i, i < D → νa 257 (24 * k + i) = ν 234 i) ∧ νa 233 30 = z_max (μ 1 5) ((k : Int) + 1) ∧ (∀ c j, c ≠ 256 → c ≠ 257 → c ≠ 263 → ¬ (c = 233 ∧ j = 30) → νa c j = ν c j) ∧ (∀ j, j ≠ k → νa 256 j = ν 256 j) ∧ (∀ j, ¬ (24 * k ≤ j ∧ j < 24 * k + 24) → νa 257 j = ν 257 j) ∧ (∀ j, j ≠ k → νa 263 j = ν 263 j) ∧ ((k : Int) ≠ μ 1 5 → νa 263 k = ν 263 k) := by
    by_cases hkl : (k : Int) = μ 1 5
    · have upM : ∀ c j, ¬ (c = 233 ∧ j = 30) → ¬ (c = 263 ∧ j = k) → ¬ (c = 256 ∧ j = k) → z_up (z_up (z_up ν 233 30 (μ 1 5 + 1)) 263 k (-1)) 256 k (D : Int) c j = ν c j := by
        intro c j g1 g2 g3
        rw [z_up, if_neg g3, z_up, if_neg g2, z_up, if_neg g1]
      obtain ⟨νa, e1, e2, e3, e4⟩ := m_put72 (L := L) rm (k := k) (D := D) (by omega) (by omega) D 100000 0 (z_up (z_up (z_up ν 233 30 (μ 1 5 + 1)) 263 k (-1)) 256 k (D : Int)) (by omega) (by omega) ((upM _ _ (by omega) (by omega) (by omega)).trans (by rw [de, hD]))
      refine ⟨νa, _, ?_, rfl, (e2 _ _ (by decide)).trans z_up_eq, fun i hi => (e4 i (by omega) hi).trans (upM _ _ (by omega) (by omega) (by omega)), ?_, fun c j g1 g2 g3 g4 => (e2 c j g2).trans (upM c j g4 (by omega) (by omega)), fun j g => (e2 _ _ (by decide)).trans (upM _ _ (by omega) (by omega) (by omega)), fun j g => (e3 j (by omega)).trans (upM _ _ (by omega) (by omega) (by omega)), fun j g => (e2 _ _ (by decide)).trans (upM _ _ (by omega) (by omega) (by omega)), fun g => absurd hkl g⟩
      · unfold f_Mo_put_60
        rw [if_pos hkl, Option.bind_some, zw_of (by omega) (by omega), zpI_k s_233, Option.bind_some, zgR_k s_233 (m_39 rm) (by decide), Option.bind_some, zsI_k s_263 (by omega) (by omega), Option.bind_some, zgR_k s_233 (m_32 rm) (by decide), Option.bind_some, zgI_k s_233, Option.bind_some, z_up_ne (by decide), z_up_nj (by decide), de, hD, zsI_k s_256 (by omega) (by omega), Option.bind_some, Int.toNat_natCast]
        exact e1
      · rw [e2 _ _ (by decide), z_up_ne (by decide), z_up_ne (by decide), z_up_eq]
        unfold z_max
        rw [if_pos (by omega)]
        omega
    · have upM : ∀ c j, ¬ (c = 256 ∧ j = k) → z_up ν 256 k (D : Int) c j = ν c j := by
        intro c j g3
        rw [z_up, if_neg g3]
      obtain ⟨νa, e1, e2, e3, e4⟩ := m_put72 (L := L) rm (k := k) (D := D) (by omega) (by omega) D 100000 0 (z_up ν 256 k (D : Int)) (by omega) (by omega) ((upM _ _ (by omega)).trans (by rw [de, hD]))
      refine ⟨νa, _, ?_, rfl, (e2 _ _ (by decide)).trans z_up_eq, fun i hi => (e4 i (by omega) hi).trans (upM _ _ (by omega)), ?_, fun c j g1 g2 g3 g4 => (e2 c j g2).trans (upM c j (by omega)), fun j g => (e2 _ _ (by decide)).trans (upM _ _ (by omega)), fun j g => (e3 j (by omega)).trans (upM _ _ (by omega)), fun j g => (e2 _ _ (by decide)).trans (upM _ _ (by omega)), fun g => (e2 _ _ (by decide)).trans (upM _ _ (by omega))⟩
      · unfold f_Mo_put_60
        rw [if_neg hkl, zgR_k s_233 (m_32 rm) (by decide), Option.bind_some, zgI_k s_233, Option.bind_some, de, hD, zsI_k s_256 (by omega) (by omega), Option.bind_some, Int.toNat_natCast]
        exact e1
      · rw [e2 _ _ (by decide), z_up_ne (by decide), le]
        unfold z_max
        rw [if_neg (by omega)]
  obtain ⟨νa, νb, m0, rfl, m1, m2, m3, m4, m5, m6, m7, m8⟩ := eM
  rw [Option.bind_some, m0]
  have mx : z_max (μ 1 5) ((k : Int) + 1) = μ 1 5 ∨ (z_max (μ 1 5) ((k : Int) + 1) = μ 1 5 + 1 ∧ (k : Int) = μ 1 5) := by
    unfold z_max
    by_cases h : μ 1 5 < (k : Int) + 1
    · rw [if_pos h]
      omega
    · rw [if_neg h]
      omega
  have mx2 : (k : Int) + 1 ≤ z_max (μ 1 5) ((k : Int) + 1) := by
    unfold z_max
    by_cases h : μ 1 5 < (k : Int) + 1
    · rw [if_pos h]
      omega
    · rw [if_neg h]
      omega
  generalize hX : z_max (μ 1 5) ((k : Int) + 1) = X at *
  generalize hμa : z_up (z_up (z_up (cpU μ 2 (179 + 9 * u + 1) D) (179 + 9 * u) 1 (D : Int)) 1 1 0) 1 5 X = μa at *
  have nb : ∀ c j, ¬ (c = 233 ∧ j = 1) → z_up νa 233 1 0 c j = νa c j := fun c j g => by rw [z_up, if_neg g]
  have nn : ∀ c j, c ≠ 256 → c ≠ 257 → c ≠ 263 → ¬ (c = 233 ∧ (j = 30 ∨ j = 1)) → z_up νa 233 1 0 c j = ν c j := fun c j g1 g2 g3 g4 => (nb c j (by omega)).trans (m4 c j g1 g2 g3 (by omega))
  have rr' : RRules μa (z_up νa 233 1 0) := rr.fr (upC _ _ (by omega) (by omega) (by omega)) (fun r j off g1 g2 => upC _ _ (by omega) (by omega) (by omega)) (fun r g1 => upC _ _ (by omega) (by omega) (by omega)) (nn _ _ (by omega) (by omega) (by omega) (by omega)) (fun c j g1 g2 => nn _ _ (by omega) (by omega) (by omega) (by omega)) (fun j hj => ⟨nn _ _ (by omega) (by omega) (by omega) (by omega), nn _ _ (by omega) (by omega) (by omega) (by omega)⟩) (fun c j g1 g2 g3 => nn _ _ (by omega) (by omega) (by omega) (by omega))
  have rt' : RTheme μa (z_up νa 233 1 0) := rt.fr (upC _ _ (by omega) (by omega) (by omega)) (fun c j g1 g2 => upC _ _ (by omega) (by omega) (by omega)) (nn _ _ (by omega) (by omega) (by omega) (by omega)) (fun c j g1 g2 => nn _ _ (by omega) (by omega) (by omega) (by omega))
  have rd' : RDraft μa (z_up νa 233 1 0) := by
    unfold RDraft
    rw [up1, z_up_eq]
    exact ⟨by omega, by omega, rfl, fun j hj => by omega⟩
  have hB : Bas μa (z_up νa 233 1 0) := by
    refine ⟨rr', ?_, ?_, ?_⟩
    · rw [nn 233 0 (by omega) (by omega) (by omega) (by omega), upC 32 0 (by omega) (by omega) (by omega)]
      exact rb
    · rw [upC 16 0 (by omega) (by omega) (by omega)]
      exact rn
    · rw [up5, nb 233 30 (by omega), m3]
      exact ⟨by omega, by omega, rfl⟩
  have e6 : μa 1 6 = μ 1 6 := upC _ _ (by omega) (by omega) (by omega)
  have hR : ∀ j : Nat, (j : Int) < μa 1 5 → j ≠ k → RLn μa (z_up νa 233 1 0) (ρ 11 j) j := by
    intro j hj hjk
    obtain ⟨v, hv, ev⟩ := dc.1 j (by omega)
    have hvu : v ≠ u := by
      intro e
      subst e
      exact hjk (dc.2 j k (by omega) (by omega) (ev.trans eu.symm))
    have h := hl j (by omega)
    rw [ev] at h ⊢
    refine h.fr (fun c j' g1 g2 => upC _ _ (by omega) (by omega) (by omega)) (upC _ _ (by omega) (by omega) (by omega)) (fun r g => upC _ _ (by omega) (by omega) (by omega)) (fun c hc => ?_) (fun c j' hc g1 g2 => ?_) (fun j' g1 g2 => nn _ _ (by omega) (by omega) (by omega) (by omega)) (fun j' g1 g2 => nn _ _ (by omega) (by omega) (by omega) (by omega)) (fun j' g1 g2 => nn _ _ (by omega) (by omega) (by omega) (by omega)) (fun j' g1 g2 => nn _ _ (by omega) (by omega) (by omega) (by omega))
    · obtain rfl | rfl | rfl | rfl := hc
      · exact (nb _ _ (by omega)).trans (m5 j hjk)
      · exact nn _ _ (by omega) (by omega) (by omega) (by omega)
      · exact nn _ _ (by omega) (by omega) (by omega) (by omega)
      · exact (nb _ _ (by omega)).trans (m7 j hjk)
    · obtain rfl | rfl | rfl := hc
      · exact (nb _ _ (by omega)).trans (m6 j' (by omega))
      · exact nn _ _ (by omega) (by omega) (by omega) (by omega)
      · exact nn _ _ (by omega) (by omega) (by omega) (by omega)
  have hT : TLn μa (z_up νa 233 1 0) (ρ 11 k) k := by
    rw [eu]
    unfold TLn lOk
    rw [upN, nb _ _ (by omega), m1]
    refine ⟨⟨by omega, by omega, fun c hc => ?_⟩, rfl, fun c hc => ?_⟩
    · rw [upT c (by omega)]
      exact (dd c (by omega)).2
    · rw [upT c (by omega), nb _ _ (by omega), m2 c (by omega)]
      exact (dd c (by omega)).1
  obtain ⟨m, hm⟩ : ∃ m : Nat, μa 1 5 = ((k + m : Nat) : Int) := ⟨(μa 1 5 - k).toNat, by omega⟩
  obtain ⟨n', μ', ν', t1, t2, t3⟩ := ref_loop (L := L) rc rm dc (μ0 := μa) (ν0 := z_up νa 233 1 0) m 100000 100000 k 0 μa (z_up νa 233 1 0) hm (by omega) (by omega) (by omega) ⟨fun _ _ _ => rfl, rfl, rfl⟩ (GFM.refl _) hB (by show z_up νa 233 1 0 233 31 = _; rw [e6, pzn_0 rp0 rp1, nn 233 31 (by omega) (by omega) (by omega) (by omega), lp]) hR (fun _ => ⟨hT, by
    obtain h | ⟨h, h'⟩ := mx
    · refine Or.inl ?_
      have h0 := (hl k (by omega)).2.2.2
      rw [eu] at h0 ⊢
      exact h0.fr (fun c j g1 g2 => upC _ _ (by omega) (by omega) (by omega)) (upC _ _ (by omega) (by omega) (by omega)) (fun r g => upC _ _ (by omega) (by omega) (by omega)) ((nb _ _ (by omega)).trans (m8 (by omega))) (fun j g1 g2 => nn _ _ (by omega) (by omega) (by omega) (by omega)) (fun j g1 g2 => nn _ _ (by omega) (by omega) (by omega) (by omega)) (fun j g1 g2 => nn _ _ (by omega) (by omega) (by omega) (by omega))
    · exact Or.inr (by omega)⟩)
  have t1' : f_SL_tokenizeFrom 1 (k : Int) 0 (SH L, ρ, μa) = some ((n' : Int), (SH L, ρ, μ')) := t1
  have t2' : f_Mo_refresh 233 (k : Int) (SH L, ρ, z_up νa 233 1 0) = some ((n' : Int), (SH L, ρ, ν')) := t2
  refine ⟨(n' : Int), μ', ν', ?_, ?_, fun c j g => (t3.b.1 c j g).trans (upC _ _ (by omega) (by omega) (by omega)), fun c j g => (t3.b.2 c j g).trans (nn _ _ (by omega) (by omega) (by omega) (by omega)), Rel.of rd' rt' hB t3⟩
  · refine eC.trans ?_
    rw [t1', Option.bind_some]
  · rw [t2', Option.bind_some]
