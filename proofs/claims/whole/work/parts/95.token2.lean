theorem undB_congr {σ σ' : Nat → Int} (p : Int) : ∀ (i : Nat), (∀ j, j < i → σ j = σ' j) → undB σ p i = undB σ' p i
  | 0, _ => rfl
  | i + 1, h => by
    unfold undB
    rw [undB_congr p i (fun j hj => h j (by omega)), h i (by omega)]
theorem entF_congr {es ep ec es' ep' ec' : Nat → Int} {s s' : Int} {u u' : Int → Bool} (hs : s = s') (hu : ∀ p, u p = u' p) : ∀ (C : Nat), (∀ e, e < C → es e = es' e ∧ ep e = ep' e ∧ ec e = ec' e) → entF es ep ec s u C = entF es' ep' ec' s' u' C
  | 0, _ => rfl
  | C + 1, h => by
    unfold entF
    obtain ⟨h1, h2, h3⟩ := h C (by omega)
    rw [entF_congr hs hu C (fun e he => h e (by omega)), h1, h2, h3, hs, hu]
theorem entT_congr {es ep ec es' ep' ec' : Nat → Int} {s s' : Int} (hs : s = s') : ∀ (C : Nat), (∀ e, e < C → es e = es' e ∧ ep e = ep' e ∧ ec e = ec' e) → entT es ep ec s C = entT es' ep' ec' s' C
  | 0, _ => rfl
  | C + 1, h => by
    unfold entT
    obtain ⟨h1, h2, h3⟩ := h C (by omega)
    rw [entT_congr hs C (fun e he => h e (by omega)), h1, h2, h3, hs]
theorem e_colours {L : Nat} {ρ : Nat → Nat → Nat} {μ : Nat → Nat → Int} {q k t C : Nat} (rc : Rc ρ) (rm : Rm ρ) (hq : q < 6) (lr : lnR ρ (179 + 9 * q)) (hk : k < 6) (ht : t < 24) (hC : μ 12 3 = C) (hC2 : μ 233 48 = C) (h6 : C ≤ 6) (he : ∀ e, e < C → μ 269 e = μ 13 e ∧ μ 270 e = μ 14 e ∧ μ 271 e = μ 15 e ∧ 1 ≤ μ 15 e ∧ 0 ≤ μ 14 e) :
    ∀ (m n n' : Nat), m ≤ 6 → m < n → m + 1 < n' → (∀ j, j < m → μ 262 (6 * (24 * k + t) + j) = μ (179 + 9 * q + 4) (6 * t + j)) → ∃ v, f_Pa_colourOf_9 n 12 (179 + 9 * q) (t : Int) ((m : Int) - 1) (SH L, ρ, μ) = some (v, (SH L, ρ, μ)) ∧ f_Mo_colour_11 n' 233 ((24 * k + t : Nat) : Int) 0 ((m : Int) - 1) (SH L, ρ, μ) = some (v, (SH L, ρ, μ)) := by
  intro m
  induction m with
  | zero =>
    intro n n' hm hn hn' hσ
    obtain ⟨n, rfl⟩ : ∃ k, n = k + 1 := ⟨n - 1, by omega⟩
    obtain ⟨n', rfl⟩ : ∃ k, n' = k + 1 := ⟨n' - 1, by omega⟩
    unfold f_Pa_colourOf_9 f_Mo_colour_11
    exact ⟨0, by rw [if_pos (by omega)], by rw [if_pos (by omega)]⟩
  | succ m ih =>
    intro n n' hm hn hn' hσ
    obtain ⟨n, rfl⟩ : ∃ k, n = k + 1 := ⟨n - 1, by omega⟩
    obtain ⟨n', rfl⟩ : ∃ k, n' = k + 1 := ⟨n' - 1, by omega⟩
    obtain ⟨v, ihS, ihM⟩ := ih n n' (by omega) (by omega) (by omega) (fun j hj => hσ j (by omega))
    have em : ((m + 1 : Nat) : Int) - 1 = (m : Int) := by omega
    rw [em]
    have hb := ent_bst (fun e => μ 13 e) (fun e => μ 14 e) (fun e => μ 15 e) (μ (179 + 9 * q + 4) (6 * t + m)) (fun p => undB (fun j => μ (179 + 9 * q + 4) (6 * t + j)) p m) C (fun e hE => ⟨(he e hE).2.2.2.1, (he e hE).2.2.2.2⟩)
    have cF := entF_congr (es := fun e => μ 269 e) (ep := fun e => μ 270 e) (ec := fun e => μ 271 e) (es' := fun e => μ 13 e) (ep' := fun e => μ 14 e) (ec' := fun e => μ 15 e) (u := fun p => undB (fun j => μ 262 (6 * (24 * k + t) + j)) p m) (u' := fun p => undB (fun j => μ (179 + 9 * q + 4) (6 * t + j)) p m) (hσ m (by omega)) (fun p => undB_congr p m (fun j hj => hσ j (by omega))) C (fun e hE => ⟨(he e hE).1, (he e hE).2.1, (he e hE).2.2.1⟩)
    have cT := entT_congr (es := fun e => μ 269 e) (ep := fun e => μ 270 e) (ec := fun e => μ 271 e) (es' := fun e => μ 13 e) (ep' := fun e => μ 14 e) (ec' := fun e => μ 15 e) (hσ m (by omega)) C (fun e hE => ⟨(he e hE).1, (he e hE).2.1, (he e hE).2.2.1⟩)
    have s1 := e_entryFor (L := L) (μ := μ) rc hq lr ht (show m < 6 by omega) hC h6
    have m1 := e_entryF (L := L) (μ := μ) rm hk ht (show m < 6 by omega) hC2 h6
    have m2 := e_entryT (L := L) (μ := μ) rm hk ht (show m < 6 by omega) hC2 h6
    rw [cF] at m1
    rw [cT] at m2
    generalize bstE (fun e => μ 13 e) (fun e => μ 14 e) (μ (179 + 9 * q + 4) (6 * t + m)) (fun p => undB (fun j => μ (179 + 9 * q + 4) (6 * t + j)) p m) C = b at hb s1
    generalize entF (fun e => μ 13 e) (fun e => μ 14 e) (fun e => μ 15 e) (μ (179 + 9 * q + 4) (6 * t + m)) (fun p => undB (fun j => μ (179 + 9 * q + 4) (6 * t + j)) p m) C = cf at hb m1
    generalize entT (fun e => μ 13 e) (fun e => μ 14 e) (fun e => μ 15 e) (μ (179 + 9 * q + 4) (6 * t + m)) C = ct at hb m2
    unfold f_Pa_colourOf_9 f_Mo_colour_11
    rw [if_neg (show ¬ (m : Int) < 0 by omega), zck_k s_12, Option.bind_some, s1, Option.bind_some, if_neg (show ¬ (m : Int) < 0 by omega), if_pos (show (0 : Int) = 0 from rfl), zck_k s_233, Option.bind_some, m1, Option.bind_some]
    dsimp only
    have ez : zw ((m : Int) + (-1)) = (m : Int) - 1 := by rw [zw_of (by omega) (by omega)]; rfl
    have fin : ∀ c : Int, c ≠ 0 → f_Mo_colour_42 (f_Mo_colour_11 n') 233 ((24 * k + t : Nat) : Int) (m : Int) c (SH L, ρ, μ) = some (c, (SH L, ρ, μ)) := by
      intro c hc
      obtain ⟨n', rfl⟩ : ∃ k, n' = k + 1 := ⟨n' - 1, by omega⟩
      unfold f_Mo_colour_42 f_Mo_colour_11
      rw [ez]
      by_cases h0 : (m : Int) - 1 < 0
      · rw [if_pos h0]
      · rw [if_neg h0, if_neg hc]
    have row : ∀ (h0 : 0 ≤ b), ∃ v, ((z_gR (SH L, ρ, μ) 3 12 2).bind fun v3 => (z_aI (SH L, ρ, μ) 20 v3 b).bind fun v4 => some (v4, (SH L, ρ, μ))) = some (v, (SH L, ρ, μ)) ∧ v = μ 15 b.toNat ∧ 1 ≤ v := by
      intro h0
      rw [zgR_k s_12 rc.2.2.1.2.2 (by decide), Option.bind_some, zaI_k s_15 h0 (by omega), Option.bind_some]
      exact ⟨_, rfl, rfl, (he b.toNat (by omega)).2.2.2.1⟩
    rcases hb.2 with ⟨h1, h2, h3⟩ | ⟨h1, h2, h3⟩ | ⟨h1, h2, h3, h4⟩
    · rw [if_pos h1, ez, if_pos h2, zck_k s_233, Option.bind_some, m2, Option.bind_some]
      dsimp only
      unfold f_Mo_colour_42
      rw [ez, h3]
      exact ⟨v, ihS, ihM⟩
    · obtain ⟨w, r1, r2, r3⟩ := row h1
      rw [if_neg (show ¬ b = -1 by omega), r1]
      have hw : cf = w := by rw [h3, r2]
      rw [hw, if_neg (show ¬ w = 0 by omega), fin w (by omega)]
      exact ⟨w, rfl, rfl⟩
    · obtain ⟨w, r1, r2, r3⟩ := row h1
      rw [if_neg (show ¬ b = -1 by omega), r1, if_pos h3, zck_k s_233, Option.bind_some, m2, Option.bind_some]
      dsimp only
      have hw : ct = w := by rw [h4, r2]
      rw [hw, fin w (by omega)]
      exact ⟨w, rfl, rfl⟩
theorem c_token (L : Nat) (k t w : Int) : CaseR L (f_SL_token 1 k t w) (f_Mo_token 233 k t w) := CaseR.ro fun ρ μ hI => by
  obtain ⟨hn, -, -⟩ := hI.nl
  have hI0 := hI
  obtain ⟨rc, rm, dc, rd, rr, rl, rt, rb, rn⟩ := hI
  obtain ⟨t0, t6, te, tt⟩ := rt
  unfold f_SL_token f_Mo_token
  rw [zck_k s_1, Option.bind_some, e_isLineS, Option.bind_some, zck_k s_233, Option.bind_some, e_isLineM, Option.bind_some, hn]
  dsimp only
  by_cases hk : 0 ≤ k ∧ k < μ 1 5
  · simp only [if_pos hk]
    obtain ⟨q, hq, e, h6, hl, lr⟩ := hI0.line hk
    obtain ⟨c0, c24, ce, cc⟩ := hl.2.2.1
    have h4 : z_gR (SH L, ρ, μ) 0 1 4 = some 11 := zgR_k s_1 rc.1.2.2.2.1 (by decide)
    have hdoc := e_doc (L := L) (μ := μ) hq hk.1 h6 e
    rw [if_neg (show ¬ (1 : Int) = 0 by decide), if_neg (show ¬ (1 : Int) = 0 by decide)]
    by_cases ht0 : t < 0
    · rw [if_pos ht0, if_pos ht0]
      exact ⟨_, rfl, rfl⟩
    simp only [if_neg ht0]
    rw [h4, Option.bind_some, hdoc, Option.bind_some, zgI_k (sl_0 hq), Option.bind_some]
    have r35 : z_gR (SH L, ρ, μ) 9 233 35 = some 259 := zgR_k s_233 (m_35 rm) (by decide)
    have r37 : z_gR (SH L, ρ, μ) 9 233 37 = some 261 := zgR_k s_233 (m_37 rm) (by decide)
    have r36 : z_gR (SH L, ρ, μ) 9 233 36 = some 260 := zgR_k s_233 (m_36 rm) (by decide)
    have r38 : z_gR (SH L, ρ, μ) 9 233 38 = some 262 := zgR_k s_233 (m_38 rm) (by decide)
    have hck : z_aI (SH L, ρ, μ) 20 259 k = some (μ (179 + 9 * q) 5) := by rw [zaI_k s_259 hk.1 (by omega), ce]
    by_cases htt : t < μ (179 + 9 * q) 5
    · rw [if_pos htt, Option.bind_some, hdoc, Option.bind_some]
      obtain ⟨T, hT⟩ : ∃ T : Nat, t = T := ⟨t.toNat, by omega⟩
      obtain ⟨K, hK⟩ : ∃ K : Nat, k = K := ⟨k.toNat, by omega⟩
      subst hT
      subst hK
      have ht24 : T < 24 := by omega
      have hK6 : K < 6 := by omega
      rw [Int.toNat_natCast] at e h6 ce cc
      obtain ⟨b1, b2, b3, b4, b5⟩ := cc T (by omega)
      have h61 : z_aI (SH L, ρ, μ) 20 261 ((24 * K + T : Nat) : Int) = some (μ (179 + 9 * q + 3) T) := by rw [zaI_k s_261 (by omega) (by omega), Int.toNat_natCast, b2]
      have g3 : z_gR (SH L, ρ, μ) 2 (179 + 9 * q) 3 = some (179 + 9 * q + 3) := zgR_k (sl_0 hq) lr.2.2.1 (by omega)
      have a3 : z_aI (SH L, ρ, μ) 20 (179 + 9 * q + 3) (T : Int) = some (μ (179 + 9 * q + 3) T) := by rw [zaI_k (sl_3 hq) (by omega) (by omega), Int.toNat_natCast]
      have ex : zw (zw (24 * (K : Int)) + (T : Int)) = ((24 * K + T : Nat) : Int) := by
        rw [zw_of (x := 24 * (K : Int)) (by omega) (by omega), zw_of (by omega) (by omega)]
        omega
      simp only [ex]
      clear ex
      by_cases hw0 : w < 0
      · rw [if_neg (show ¬ w = 0 by omega), if_neg (show ¬ w = 1 by omega), if_neg (show ¬ w = 2 by omega), if_neg (show ¬ w = 3 by omega), if_pos hw0]
        exact ⟨_, rfl, rfl⟩
      by_cases hw3 : w ≤ 3
      · simp only [if_neg hw0, if_pos hw3]
        rw [r35, Option.bind_some, hck, Option.bind_some, if_pos htt, r37, Option.bind_some, h61, Option.bind_some]
        by_cases e0 : w = 0
        · simp only [if_pos e0]
          rw [zgR_k (sl_0 hq) lr.2.1 (by omega), Option.bind_some, zaI_k (sl_2 hq) (by omega) (by omega), Option.bind_some, r36, Option.bind_some, zaI_k s_260 (by omega) (by omega), Option.bind_some, Int.toNat_natCast, Int.toNat_natCast, b1]
          exact ⟨_, rfl, rfl⟩
        simp only [if_neg e0]
        by_cases e1 : w = 1
        · simp only [if_pos e1]
          rw [g3, Option.bind_some, a3, Option.bind_some]
          exact ⟨_, rfl, rfl⟩
        simp only [if_neg e1]
        by_cases e2 : w = 2
        · simp only [if_pos e2]
          rw [zck_k (sl_0 hq), Option.bind_some]
          unfold f_Li_lastScope
          rw [g3, Option.bind_some, a3, Option.bind_some]
          by_cases hz : μ (179 + 9 * q + 3) T = 0
          · simp only [if_pos hz]
            exact ⟨_, rfl, rfl⟩
          · simp only [if_neg hz]
            obtain ⟨N, hN⟩ : ∃ N : Nat, μ (179 + 9 * q + 3) T = N + 1 := ⟨(μ (179 + 9 * q + 3) T - 1).toNat, by omega⟩
            rw [Option.bind_some, a3, Option.bind_some, zck_k (sl_0 hq), Option.bind_some, zw_of (x := μ (179 + 9 * q + 3) T - 1) (by omega) (by omega), show μ (179 + 9 * q + 3) T - 1 = (N : Int) by omega, e_scopeOf hq lr ht24 (show N < 6 by omega), Option.bind_some, Option.bind_some, r38, Option.bind_some, zw_of (x := 6 * ((24 * K + T : Nat) : Int)) (by omega) (by omega), zw_of (x := 6 * ((24 * K + T : Nat) : Int) + μ (179 + 9 * q + 3) T) (by omega) (by omega), zw_of (by omega) (by omega), zaI_k s_262 (by omega) (by omega), Option.bind_some]
            have := b5 N (by omega)
            rw [show (6 * ((24 * K + T : Nat) : Int) + μ (179 + 9 * q + 3) T - 1).toNat = 6 * (24 * K + T) + N by omega, this]
            exact ⟨_, rfl, rfl⟩
        simp only [if_neg e2]
        rw [if_pos (show w = 3 by omega), zgR_k s_1 rc.1.2.2.2.2.1 (by decide), Option.bind_some, zck_k s_12, Option.bind_some]
        unfold f_Pa_colourOf
        rw [g3, Option.bind_some, a3, Option.bind_some, zck_k s_233, Option.bind_some]
        unfold f_Mo_colour
        rw [r37, Option.bind_some, h61, Option.bind_some, zw_of (x := μ (179 + 9 * q + 3) T - 1) (by omega) (by omega)]
        obtain ⟨N, hN⟩ : ∃ N : Nat, μ (179 + 9 * q + 3) T = N := ⟨(μ (179 + 9 * q + 3) T).toNat, by omega⟩
        obtain ⟨C, hC⟩ : ∃ C : Nat, μ 12 3 = C := ⟨(μ 12 3).toNat, by omega⟩
        obtain ⟨v, cS, cM⟩ := e_colours (L := L) (μ := μ) (k := K) rc rm hq lr hK6 ht24 hC (te.trans hC) (by omega) (fun z hz => tt z (by omega)) N 100000 100000 (by omega) (by omega) (by omega) (fun j hj => b5 j (by omega))
        rw [hN, cS, Option.bind_some, cM, Option.bind_some]
        exact ⟨v, rfl, rfl⟩
      · rw [if_neg (show ¬ w = 0 by omega), if_neg (show ¬ w = 1 by omega), if_neg (show ¬ w = 2 by omega), if_neg (show ¬ w = 3 by omega), if_neg hw0, if_neg hw3]
        exact ⟨_, rfl, rfl⟩
    · rw [if_neg htt]
      by_cases hw0 : w < 0
      · rw [if_pos hw0]
        exact ⟨_, rfl, rfl⟩
      rw [if_neg hw0]
      by_cases hw3 : w ≤ 3
      · rw [if_pos hw3, r35, Option.bind_some, hck, Option.bind_some, if_neg htt]
        exact ⟨_, rfl, rfl⟩
      · rw [if_neg hw3]
        exact ⟨_, rfl, rfl⟩
  · simp only [if_neg hk]
    exact ⟨_, rfl, rfl⟩
