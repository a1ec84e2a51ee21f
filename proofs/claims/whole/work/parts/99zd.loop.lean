/-! The loop of tokenize -/
def OI (μ ν : Nat → Nat → Int) (u k s : Nat) : Prop := RRules μ ν ∧ (ν 233 0 = μ 32 0 ∧ 10 ≤ μ 32 0 ∧ μ 32 0 ≤ 300) ∧ TLn μ ν (179 + 9 * u) k ∧ StR μ ν u k s
theorem OI.fr {μ ν μ' ν' : Nat → Nat → Int} {u k s : Nat} (h : OI μ ν u k s) (hk : k < 6) (hC : BFC (179 + 9 * u) μ μ') (hM : BFM k ν ν') : OI μ' ν' u k s := by
  obtain ⟨rr, rb, rl, rs⟩ := h
  obtain ⟨c1, c2, c3, c4, c5⟩ := hC
  obtain ⟨m1, m2, m3, m4, m5, m6, m7, m8, m9⟩ := hM
  have r9 := rr.2.1
  refine ⟨rr.fr c2 (fun r j off g1 g2 => c1 _ _ (by omega) (by omega)) (fun r g1 => c1 _ _ (by omega) (by omega)) (m2 _ (by omega)) (fun c j g1 g2 => m1 _ _ (by omega)) (fun j hj => ⟨m1 _ _ (by omega), m1 _ _ (by omega)⟩) (fun c j g1 g2 g3 => m1 _ _ (by omega)), ?_, ?_, ?_⟩
  · rw [m2 0 (by omega), c3]
    exact rb
  · refine rl.fr (fun c j g1 g2 g3 => ?_) (m1 _ _ (by omega)) (fun j _ _ => m1 _ _ (by omega))
    obtain rfl | rfl : c = 179 + 9 * u ∨ c = 179 + 9 * u + 1 := by omega
    · exact c4 j (by have := g3 rfl; omega) (by have := g3 rfl; omega)
    · exact c5 j
  · obtain ⟨h1, h2, h3⟩ | ⟨h1, h2, v, v1, v2, v3⟩ := rs
    · exact Or.inl ⟨h1, h2, (c1 _ _ (by omega) (by omega)).trans h3⟩
    · subst v3
      exact Or.inr ⟨h1, h2.fr (fun c j g1 g2 => c1 _ _ (by omega) (by omega)) c2 (fun r g => c1 _ _ (by omega) (by omega)) (m6 _ (by omega)) (fun j g1 g2 => m7 j (by omega)) (fun j g1 g2 => m8 j (by omega)) (fun j g1 g2 => m9 j (by omega)), v, v1, v2, rfl⟩
def TFC (u : Nat) (μ μ' : Nat → Nat → Int) : Prop := (∀ c j, c < 24 ∨ 36 ≤ c → ¬ (179 + 9 * u ≤ c ∧ c ≤ 187 + 9 * u) → μ' c j = μ c j) ∧ μ' 24 1 = μ 24 1 ∧ μ' 32 0 = μ 32 0
def TFM (k : Nat) (ν ν' : Nat → Nat → Int) : Prop := (∀ c j, c < 233 ∨ (234 ≤ c ∧ c ≤ 251) ∨ c = 256 ∨ c = 257 ∨ 269 ≤ c → ν' c j = ν c j) ∧ (∀ j, j < 21 ∨ (27 ≤ j ∧ j < 31) ∨ (31 < j ∧ j < 44) ∨ 46 < j → ν' 233 j = ν 233 j) ∧ (∀ c j, c = 258 ∨ c = 259 → j ≠ k → ν' c j = ν c j) ∧ (∀ c j, c = 260 ∨ c = 261 → ¬ (24 * k ≤ j ∧ j < 24 * k + 24) → ν' c j = ν c j) ∧ (∀ j, ¬ (144 * k ≤ j ∧ j < 144 * k + 144) → ν' 262 j = ν 262 j) ∧ (∀ j, j ≠ 6 → j ≠ k → ν' 263 j = ν 263 j) ∧ (∀ j, ¬ (30 ≤ j ∧ j < 35) → ¬ (5 * k ≤ j ∧ j < 5 * k + 5) → ν' 264 j = ν 264 j) ∧ (∀ j, ¬ (60 ≤ j ∧ j < 70) → ¬ (10 * k ≤ j ∧ j < 10 * k + 10) → ν' 265 j = ν 265 j) ∧ ∀ j, ¬ (1440 ≤ j ∧ j < 1680) → ¬ (240 * k ≤ j ∧ j < 240 * k + 240) → ν' 266 j = ν 266 j
theorem BFC.t {u : Nat} {μ μ' μ'' : Nat → Nat → Int} (h : BFC (179 + 9 * u) μ μ') (g : ∀ c j, c < 184 + 9 * u ∨ 187 + 9 * u < c → μ'' c j = μ' c j) : TFC u μ μ'' := ⟨fun c j g1 g2 => (g c j (by omega)).trans (h.1 c j g1 (by omega)), (g _ _ (by omega)).trans h.2.1, (g _ _ (by omega)).trans h.2.2.1⟩
theorem BFM.t {k : Nat} {ν ν' ν'' : Nat → Nat → Int} (h : BFM k ν ν') (g : CpM 6 k ν' ν'') : TFM k ν ν'' ∧ ν'' 233 31 = ν 233 31 := by
  obtain ⟨h1, h2, h3, h4, h5, h6, h7, h8, h9⟩ := h
  obtain ⟨g1, g2, -, g4, -, g6, -, g8, -⟩ := g
  exact ⟨⟨fun c j a => (g1 c j (by omega)).trans (h1 c j a), fun j a => (g1 _ j (by omega)).trans (h2 j (by omega)), fun c j a b => (g1 c j (by omega)).trans (h3 c j a b), fun c j a b => (g1 c j (by omega)).trans (h4 c j a b), fun j a => (g1 _ j (by omega)).trans (h5 j a), fun j a b => (g2 j b).trans (h6 j a), fun j a b => (g4 j b).trans (h7 j a), fun j a b => (g6 j b).trans (h8 j a), fun j a b => (g8 j b).trans (h9 j a)⟩, (g1 _ _ (by omega)).trans (h2 _ (by omega))⟩
theorem TTk.fr {μ ν μ' ν' : Nat → Nat → Int} {l k : Nat} (h : TTk μ ν l k) (h1 : ∀ c j, l ≤ c → c ≤ l + 4 → μ' c j = μ c j) (h2 : ∀ c j, 259 ≤ c → c ≤ 262 → ν' c j = ν c j) : TTk μ' ν' l k := by
  obtain ⟨a, b, c, d⟩ := h
  unfold TTk
  rw [h1 l 5 (by omega) (by omega), h2 259 k (by omega) (by omega)]
  refine ⟨a, b, c, fun t ht => ?_⟩
  obtain ⟨d1, d2, d3, d4, d5⟩ := d t ht
  rw [h2 260 _ (by omega) (by omega), h2 261 _ (by omega) (by omega), h1 (l + 2) _ (by omega) (by omega), h1 (l + 3) _ (by omega) (by omega)]
  refine ⟨d1, d2, d3, d4, fun i hi => ?_⟩
  rw [h2 262 _ (by omega) (by omega), h1 (l + 4) _ (by omega) (by omega)]
  exact d5 i hi
section Lop
variable {L : Nat} {ρ : Nat → Nat → Nat} {u k : Nat}
/-- behind the last cut both leave the loop -/
theorem tok_exit (rc : Rc ρ) (rm : Rm ρ) (hu : u < 6) (hk : k < 6) {s : Nat} {q : Int} {μ0 ν0 μ ν : Nat → Nat → Int} (hC : BFC (179 + 9 * u) μ0 μ) (hM : BFM k ν0 ν) (oi : OI μ ν u k s) (rs : RSt μ ν 26 6) (tk : TTk μ ν (179 + 9 * u) k) (mk : ν 258 k = μ (179 + 9 * u) 6 ∧ (μ (179 + 9 * u) 6 = 0 ∨ μ (179 + 9 * u) 6 = 1)) (N N' : Nat) (n n' : Int) : ∃ μ' ν', f_Gr_tokenize_26 (N + 1) 24 (179 + 9 * u) s q 0 n (SH L, ρ, μ) = some (SH L, ρ, μ') ∧ f_Mo_tokenize_36 (N' + 1) 233 (k : Int) q 0 n' (SH L, ρ, ν) = some (SH L, ρ, ν') ∧ TFC u μ0 μ' ∧ (TFM k ν0 ν' ∧ ν' 233 31 = ν0 233 31) ∧ RLn μ' ν' (179 + 9 * u) k := by
  obtain ⟨rr, -, rl, -⟩ := oi
  obtain ⟨μ', ν', a1, a2, a3, a4, a5⟩ := exit_both (L := L) rc rm hu hk rr rs rl tk mk
  refine ⟨μ', ν', ?_, ?_, hC.t a3, hM.t a4, a5⟩
  · rw [f_Gr_tokenize_26]
    show (if _ then _ else _) = _
    by_cases h : 54 ≤ n
    · rw [if_pos h]
      exact a1
    · rw [if_neg h, if_pos rfl]
      exact a1
  · rw [f_Mo_tokenize_36]
    show (if _ then _ else _) = _
    by_cases h : 100 ≤ n'
    · rw [if_pos h]
      exact a2
    · rw [if_neg h, if_pos rfl]
      exact a2
theorem tok_loop (rc : Rc ρ) (rm : Rm ρ) (hu : u < 6) (hk : k < 6) {s : Nat} : ∀ (M N N' n n' : Nat) (q : Int) (μ ν : Nat → Nat → Int), n + M ≤ 54 → n' + M ≤ 100 → M < N → M < N' → 2 * (24 - q) + μ 26 0 < M → 0 ≤ q → q ≤ μ (179 + 9 * u) 1 → OI μ ν u k s → RSt μ ν 26 6 → TTk μ ν (179 + 9 * u) k → μ (179 + 9 * u) 5 ≤ q → ν 258 k = μ (179 + 9 * u) 6 ∧ (μ (179 + 9 * u) 6 = 0 ∨ μ (179 + 9 * u) 6 = 1) →
    ∃ μ' ν', f_Gr_tokenize_26 N 24 (179 + 9 * u) s q 1 (n : Int) (SH L, ρ, μ) = some (SH L, ρ, μ') ∧ f_Mo_tokenize_36 N' 233 (k : Int) q 1 (n' : Int) (SH L, ρ, ν) = some (SH L, ρ, ν') ∧ TFC u μ μ' ∧ (TFM k ν ν' ∧ ν' 233 31 = ν 233 31) ∧ RLn μ' ν' (179 + 9 * u) k := by
  intro M
  induction M with
  | zero =>
    intro N N' n n' q μ ν h1 h2 h3 h4 h5 h6 h7 oi rs tk h8 mk
    have := oi.2.2.1.1.2.1
    have := rs.1
    omega
  | succ M ih =>
    intro N N' n n' q μ ν h1 h2 h3 h4 h5 h6 h7 oi rs tk h8 mk
    obtain ⟨N, rfl⟩ : ∃ k, N = k + 1 + 1 := ⟨N - 2, by omega⟩
    obtain ⟨N', rfl⟩ : ∃ k, N' = k + 1 + 1 := ⟨N' - 2, by omega⟩
    obtain ⟨rr, rb, rl, sr⟩ := id oi
    have l24 := rl.1.2.1
    obtain ⟨z, μ1, ν1, a1, a2, az, fC, fM, aw⟩ := find_both (L := L) rc rm hu hk h6 (q := q) ⟨rr, rb, rl, rs⟩ h7
    have bC : BFC (179 + 9 * u) μ μ1 := fC.b (by omega)
    have bM : BFM k ν ν1 := fM.b
    have oi1 : OI μ1 ν1 u k s := oi.fr hk bC bM
    have rs1 : RSt μ1 ν1 26 6 := (FI.fr ⟨rr, rb, rl, rs⟩ (l := 179 + 9 * u) (k := k) (by omega) fC fM).2.2.2
    have kC : ∀ c j, 36 ≤ c → μ1 c j = μ c j := fun c j h => fC.1 c j (by omega) (by omega) (by omega) (by omega)
    have kM : ∀ c j, 256 ≤ c → c ≤ 266 → ν1 c j = ν c j := fun c j g1 g2 => fM.1 c j (by omega) (by omega) (by omega) (by omega) (by omega) (by omega) (by omega)
    have k26 : ∀ c j, 26 ≤ c → c ≤ 29 → μ1 c j = μ c j := fun c j g1 g2 => fC.1 c j (by omega) (by omega) (by omega) (by omega)
    have tk1 : TTk μ1 ν1 (179 + 9 * u) k := tk.fr (fun c j g1 g2 => kC c j (by omega)) (fun c j g1 g2 => kM c j (by omega) (by omega))
    have mk1 : ν1 258 k = μ1 (179 + 9 * u) 6 ∧ (μ1 (179 + 9 * u) 6 = 0 ∨ μ1 (179 + 9 * u) 6 = 1) := by
      rw [kC _ _ (by omega), kM _ _ (by omega) (by omega)]
      exact mk
    have e15 : μ1 (179 + 9 * u) 5 ≤ q := by rw [kC _ _ (by omega)]; exact h8
    have e11 : μ1 (179 + 9 * u) 1 = μ (179 + 9 * u) 1 := kC _ _ (by omega)
    obtain ⟨rr1, rb1, rl1, sr1⟩ := id oi1
    have r9 := rr1.2.1
    have eC : f_Gr_tokenize_26 (N + 1 + 1) 24 (179 + 9 * u) s q 1 (n : Int) (SH L, ρ, μ) = if z = 0 then (f_Gr_mark 24 (179 + 9 * u) s (SH L, ρ, μ1)).bind fun h20 => f_Gr_tokenize_26 (N + 1) 24 (179 + 9 * u) s q 0 ((n + 1 : Nat) : Int) h20 else (f_Gr_isLast 24 q (SH L, ρ, μ1)).bind fun q8 => if q8.1 = 0 then (z_gI q8.2 8 24 7).bind fun v9 => (z_ck q8.2 8 24).bind fun _ => (f_Gr_cut 24 (179 + 9 * u) q v9 q8.2).bind fun q11 => (z_ck q11.2 8 24).bind fun _ => (f_Gr_takeWinner 24 (179 + 9 * u) q11.2).bind fun h13 => (z_gI h13 8 24 8).bind fun v14 => f_Gr_tokenize_26 (N + 1) 24 (179 + 9 * u) s v14 1 ((n + 1 : Nat) : Int) h13 else (z_gI q8.2 2 (179 + 9 * u) 1).bind fun v15 => (z_ck q8.2 8 24).bind fun _ => (f_Gr_cut 24 (179 + 9 * u) q v15 q8.2).bind fun q17 => f_Gr_tokenize_26 (N + 1) 24 (179 + 9 * u) s q 0 ((n + 1 : Nat) : Int) q17.2 := by
      rw [f_Gr_tokenize_26]
      show (if _ then _ else _) = _
      unfold f_Gr_tokenize_105
      rw [if_neg (by omega), if_neg (by decide), zck_k s_24, Option.bind_some, a1, Option.bind_some, zw_of (x := (n : Int) + 1) (by omega) (by omega), show ((n + 1 : Nat) : Int) = (n : Int) + 1 by omega]
      dsimp only
      rw [zck_k s_24, Option.bind_some, Option.bind_some]
    obtain az | az := az
    · subst az
      -- OVER: the line is marked
      have upb : ∀ c j, ¬ ((c = 258 ∨ c = 259) ∧ j = k) → z_up (z_up ν1 258 k 1) 259 k 0 c j = ν1 c j := by
        intro c j h
        rw [z_up, if_neg (by omega), z_up, if_neg (by omega)]
      have bMb : BFM k ν1 (z_up (z_up ν1 258 k 1) 259 k 0) := ⟨fun c j g => upb c j (by omega), fun j g => upb _ j (by omega), fun c j g1 g2 => upb c j (by omega), fun c j g1 g2 => upb c j (by omega), fun j g => upb _ j (by omega), fun j g => upb _ j (by omega), fun j g => upb _ j (by omega), fun j g => upb _ j (by omega), fun j g => upb _ j (by omega)⟩
      have oib := oi1.fr hk (BFC.refl _ _) bMb
      obtain ⟨μ2, ν2, b1, b2, b3, b4, b5, b6, b7, b8, b9⟩ := begin_both (L := L) rc rm hk (u := u) oib.1 oib.2.2.2
      have bM2 : BFM k (z_up (z_up ν1 258 k 1) 259 k 0) ν2 := ⟨fun c j g => b4 c j (by omega), fun j g => b4 _ j (by omega), fun c j g1 g2 => b4 c j (by omega), fun c j g1 g2 => b4 c j (by omega), fun j g => b4 _ j (by omega), b5, b6, b7, b8⟩
      have up3 : ∀ c j, ¬ (c = 179 + 9 * u ∧ (j = 5 ∨ j = 6)) → z_up (z_up μ2 (179 + 9 * u) 5 0) (179 + 9 * u) 6 1 c j = μ2 c j := by
        intro c j h
        rw [z_up, if_neg (by omega), z_up, if_neg (by omega)]
      have bC3 : BFC (179 + 9 * u) μ1 (z_up (z_up μ2 (179 + 9 * u) 5 0) (179 + 9 * u) 6 1) := ⟨fun c j g1 g2 => (up3 c j (by omega)).trans (b3 c j (by omega)), (up3 _ _ (by omega)).trans (b3 _ _ (by omega)), (up3 _ _ (by omega)).trans (b3 _ _ (by omega)), fun j g1 g2 => (up3 _ _ (by omega)).trans (b3 _ _ (by omega)), fun j => (up3 _ _ (by omega)).trans (b3 _ _ (by omega))⟩
      have oi3 := oib.fr hk bC3 bM2
      have rs3 : RSt (z_up (z_up μ2 (179 + 9 * u) 5 0) (179 + 9 * u) 6 1) ν2 26 6 := b9.fr (fun c j g1 g2 => up3 c j (by omega)) (up3 _ _ (by omega)) (fun r g => up3 _ _ (by omega)) rfl (fun _ _ _ => rfl) (fun _ _ _ => rfl) (fun _ _ _ => rfl)
      have e5 : z_up (z_up μ2 (179 + 9 * u) 5 0) (179 + 9 * u) 6 1 (179 + 9 * u) 5 = 0 := (z_up_nj (by decide)).trans z_up_eq
      have n5 : ν2 259 k = 0 := (b4 _ _ (by omega)).trans z_up_eq
      have tk3 : TTk (z_up (z_up μ2 (179 + 9 * u) 5 0) (179 + 9 * u) 6 1) ν2 (179 + 9 * u) k := by
        unfold TTk
        rw [e5, n5]
        exact ⟨by omega, by omega, rfl, fun t ht => by omega⟩
      have e1 : z_up (z_up μ2 (179 + 9 * u) 5 0) (179 + 9 * u) 6 1 (179 + 9 * u) 1 = μ (179 + 9 * u) 1 := ((up3 _ _ (by omega)).trans (b3 _ _ (by omega))).trans e11
      obtain ⟨μ4, ν4, c1, c2, cb⟩ := cut_both (L := L) rc rm hu hk oi3.1 rs3 tk3 (fr := 0) (to := μ (179 + 9 * u) 1) (by rw [e5]; omega) (by omega) l24
      have oi4 := oi3.fr hk cb.1 cb.2.1
      have rs4 := cb.rs oi3.1 rs3
      obtain ⟨cb1, cb2, cb3, cb4, cb5, cb6, cb7⟩ := id cb
      have mk4 : ν4 258 k = μ4 (179 + 9 * u) 6 ∧ (μ4 (179 + 9 * u) 6 = 0 ∨ μ4 (179 + 9 * u) 6 = 1) := by
        rw [cb7 258 k (by omega), cb5 6 (by decide), z_up_eq, b4 258 k (by omega), z_up_ne (by decide), z_up_eq]
        exact ⟨rfl, Or.inr rfl⟩
      obtain ⟨μ', ν', d1, d2, d3, d4, d5⟩ := tok_exit (L := L) rc rm hu hk (q := q) (bC.trans (bC3.trans cb1)) (bM.trans (bMb.trans (bM2.trans cb2))) oi4 rs4 cb3 mk4 N N' ((n + 1 : Nat) : Int) ((n' + 1 : Nat) : Int)
      refine ⟨μ', ν', ?_, ?_, d3, d4, d5⟩
      · rw [eC, if_pos rfl]
        have em : f_Gr_mark 24 (179 + 9 * u) s (SH L, ρ, μ1) = some (SH L, ρ, μ4) := by
          unfold f_Gr_mark
          rw [zgR_k s_24 rc.2.2.2.2.1.2.2.1 (by decide), Option.bind_some, zck_k s_26, Option.bind_some, b1, Option.bind_some, zpI_k (sl_0 hu), Option.bind_some, zpZ_k (sl_0 hu) (Or.inr rfl), Option.bind_some, zgI_k (sl_0 hu), Option.bind_some, e1, zck_k s_24, Option.bind_some, c1, Option.bind_some]
        rw [em, Option.bind_some]
        exact d1
      · rw [f_Mo_tokenize_36]
        show (if _ then _ else _) = _
        unfold f_Mo_tokenize_301
        rw [if_neg (by omega), if_neg (by decide), zck_k s_233, Option.bind_some, a2, Option.bind_some]
        dsimp only
        have e56 : ν2 256 k = μ (179 + 9 * u) 1 := by
          rw [b4 256 k (by omega), upb 256 k (by omega), kM 256 k (by omega) (by omega)]
          exact rl.2.1
        rw [if_pos rfl, zgR_k s_233 (m_34 rm) (by decide), Option.bind_some, zsI_k s_258 (by omega) (by omega), Option.bind_some, zgR_k s_233 (m_35 rm) (by decide), Option.bind_some, zsI_k s_259 (by omega) (by omega), Option.bind_some, Int.toNat_natCast, show (1 : Int) % 2 = 1 from rfl, zck_k s_233, Option.bind_some, b2, Option.bind_some, zgR_k s_233 (m_32 rm) (by decide), Option.bind_some, zaI_k s_256 (by omega) (by omega), Option.bind_some, Int.toNat_natCast, e56, zck_k s_233, Option.bind_some, c2, Option.bind_some, zw_of (by omega) (by omega)]
        rw [show ((n' + 1 : Nat) : Int) = (n' : Int) + 1 by omega] at d2
        exact d2
    · subst az
      have aw := aw rfl
      obtain ⟨rr10, -, rr13, -, rr15, rr16, -⟩ := id rr1
      have h6r : -1 ≤ μ1 24 6 ∧ μ1 24 6 ≤ 9 := by
        obtain ⟨w1, w2⟩ | ⟨⟨w1, w2, w3⟩ | ⟨w1, w2, w3⟩, -⟩ := aw
        · omega
        · omega
        · have := bC.2.1
          omega
      obtain ⟨zl, l1, l2⟩ := tc_last (L := L) (q := q) rc h6r.1 h6r.2 (fun g => (rr15 (μ1 24 6).toNat (by
        obtain ⟨w1, w2⟩ | ⟨⟨w1, w2, w3⟩ | ⟨w1, w2, w3⟩, -⟩ := aw
        · omega
        · omega
        · have := bC.2.1
          omega)).2)
      -- the last token: both cut the rest and leave
      have last : zl = 1 → f_Mo_tokenize_36 (N' + 1 + 1) 233 (k : Int) q 1 (n' : Int) (SH L, ρ, ν) = f_Mo_tokenize_190 (f_Mo_tokenize_36 (N' + 1)) 233 (k : Int) q (n' : Int) (SH L, ρ, ν1) → ∃ μ' ν', f_Gr_tokenize_26 (N + 1 + 1) 24 (179 + 9 * u) s q 1 (n : Int) (SH L, ρ, μ) = some (SH L, ρ, μ') ∧ f_Mo_tokenize_36 (N' + 1 + 1) 233 (k : Int) q 1 (n' : Int) (SH L, ρ, ν) = some (SH L, ρ, ν') ∧ TFC u μ μ' ∧ (TFM k ν ν' ∧ ν' 233 31 = ν 233 31) ∧ RLn μ' ν' (179 + 9 * u) k := by
        intro hz hm
        obtain ⟨μ4, ν4, c1, c2, cb⟩ := cut_both (L := L) rc rm hu hk rr1 rs1 tk1 (fr := q) (to := μ (179 + 9 * u) 1) e15 h7 l24
        have oi4 := oi1.fr hk cb.1 cb.2.1
        have rs4 := cb.rs rr1 rs1
        obtain ⟨cb1, cb2, cb3, cb4, cb5, cb6, cb7⟩ := id cb
        have mk4 : ν4 258 k = μ4 (179 + 9 * u) 6 ∧ (μ4 (179 + 9 * u) 6 = 0 ∨ μ4 (179 + 9 * u) 6 = 1) := by
          rw [cb7 258 k (by omega), cb5 6 (by decide)]
          exact mk1
        obtain ⟨μ', ν', d1, d2, d3, d4, d5⟩ := tok_exit (L := L) rc rm hu hk (q := q) (bC.trans cb1) (bM.trans cb2) oi4 rs4 cb3 mk4 N N' ((n + 1 : Nat) : Int) ((n' + 1 : Nat) : Int)
        refine ⟨μ', ν', ?_, ?_, d3, d4, d5⟩
        · rw [eC, if_neg (by decide), l1, Option.bind_some]
          dsimp only
          rw [if_neg (by omega), zgI_k (sl_0 hu), Option.bind_some, zck_k s_24, Option.bind_some, e11, c1, Option.bind_some]
          exact d1
        · rw [hm, tm_last rm hk (by omega), kM 256 k (by omega) (by omega), rl.2.1, c2, Option.bind_some]
          exact d2
      obtain ⟨w1, w2⟩ | ⟨wc, w3, w4, w5, w6, w7, w8⟩ := id aw
      · exact last (by
          obtain ⟨y1, y2⟩ | ⟨y1, y2⟩ := l2
          · exact y1
          · omega) (tm_none (by omega) a2 w2)
      -- a winner: first what stands ahead of it is cut
      obtain ⟨μ2, ν2, c1, c2, cb⟩ := cut_both (L := L) rc rm hu hk rr1 rs1 tk1 (fr := q) (to := μ1 24 7) e15 w5 (by omega)
      have oi2 := oi1.fr hk cb.1 cb.2.1
      have rs2 := cb.rs rr1 rs1
      obtain ⟨cb1, cb2, cb3, cb4, cb5, cb6, cb7⟩ := id cb
      have v6 : μ2 24 6 = μ1 24 6 := cb6 _ _ (by omega)
      have v7 : μ2 24 7 = μ1 24 7 := cb6 _ _ (by omega)
      have v8 : μ2 24 8 = μ1 24 8 := cb6 _ _ (by omega)
      have v26 : μ2 26 0 = μ 26 0 := (cb6 _ _ (by omega)).trans (k26 _ _ (by omega) (by omega))
      have n45 : ν2 233 45 = μ1 24 7 := (cb7 _ _ (by omega)).trans w3
      have n46 : ν2 233 46 = μ1 24 8 := (cb7 _ _ (by omega)).trans w4
      have l2' : μ2 (179 + 9 * u) 1 = μ (179 + 9 * u) 1 := (cb5 _ (by decide)).trans e11
      have r92 : μ2 24 1 = μ1 24 1 := cb6 _ _ (by omega)
      have mk2 : ν2 258 k = μ2 (179 + 9 * u) 6 ∧ (μ2 (179 + 9 * u) 6 = 0 ∨ μ2 (179 + 9 * u) 6 = 1) := by
        rw [cb7 258 k (by omega), cb5 6 (by decide)]
        exact mk1
      -- on with the loop
      have on : ∀ (μ4 ν4 : Nat → Nat → Int), zl = 0 → f_Gr_takeWinner 24 (179 + 9 * u) (SH L, ρ, μ2) = some (SH L, ρ, μ4) → f_Mo_tokenize_36 (N' + 1 + 1) 233 (k : Int) q 1 (n' : Int) (SH L, ρ, ν) = f_Mo_tokenize_36 (N' + 1) 233 (k : Int) (μ1 24 8) 1 ((n' + 1 : Nat) : Int) (SH L, ρ, ν4) → BFC (179 + 9 * u) μ2 μ4 → BFM k ν2 ν4 → RSt μ4 ν4 26 6 → TTk μ4 ν4 (179 + 9 * u) k → μ4 (179 + 9 * u) 5 ≤ μ1 24 8 → μ4 24 8 = μ1 24 8 → μ4 (179 + 9 * u) 6 = μ2 (179 + 9 * u) 6 → ν4 258 k = ν2 258 k → 2 * (24 - μ1 24 8) + μ4 26 0 < M → ∃ μ' ν', f_Gr_tokenize_26 (N + 1 + 1) 24 (179 + 9 * u) s q 1 (n : Int) (SH L, ρ, μ) = some (SH L, ρ, μ') ∧ f_Mo_tokenize_36 (N' + 1 + 1) 233 (k : Int) q 1 (n' : Int) (SH L, ρ, ν) = some (SH L, ρ, ν') ∧ TFC u μ μ' ∧ (TFM k ν ν' ∧ ν' 233 31 = ν 233 31) ∧ RLn μ' ν' (179 + 9 * u) k := by
        intro μ4 ν4 hz hm1 hm2 g1 g2 g3 g4 g5 g6 g7 g8 g9
        have tC := bC.trans (cb1.trans g1)
        have tM := bM.trans (cb2.trans g2)
        have e4 : μ4 (179 + 9 * u) 1 = μ (179 + 9 * u) 1 := tC.2.2.2.1 1 (by decide) (by decide)
        obtain ⟨μ', ν', d1, d2, d3, ⟨d4, d5⟩, d6⟩ := ih (N + 1) (N' + 1) (n + 1) (n' + 1) (μ1 24 8) μ4 ν4 (by omega) (by omega) (by omega) (by omega) g9 (by omega) (by rw [e4]; exact w7) (oi.fr hk tC tM) g3 g4 g5 (by rw [g7, g8]; exact mk2)
        refine ⟨μ', ν', ?_, hm2.trans d2, ?_, ⟨?_, d5.trans (tM.2.1 31 (by omega))⟩, d6⟩
        · rw [eC, if_neg (by decide), l1, Option.bind_some]
          dsimp only
          rw [if_pos hz, zgI_k s_24, Option.bind_some, zck_k s_24, Option.bind_some, c1, Option.bind_some]
          dsimp only
          rw [zck_k s_24, Option.bind_some, hm1, Option.bind_some, zgI_k s_24, Option.bind_some, g6]
          exact d1
        · exact ⟨fun c j x1 x2 => (d3.1 c j x1 x2).trans (tC.1 c j x1 (by omega)), d3.2.1.trans tC.2.1, d3.2.2.trans tC.2.2.1⟩
        · obtain ⟨x1, x2, x3, x4, x5, x6, x7, x8, x9⟩ := d4
          obtain ⟨y1, y2, y3, y4, y5, y6, y7, y8, y9⟩ := tM
          exact ⟨fun c j a => (x1 c j a).trans (y1 c j a), fun j a => (x2 j a).trans (y2 j (by omega)), fun c j a b => (x3 c j a b).trans (y3 c j a b), fun c j a b => (x4 c j a b).trans (y4 c j a b), fun j a => (x5 j a).trans (y5 j a), fun j a b => (x6 j a b).trans (y6 j a), fun j a b => (x7 j a b).trans (y7 j a), fun j a b => (x8 j a b).trans (y8 j a), fun j a b => (x9 j a b).trans (y9 j a)⟩
      have c2' : f_Mo_cutOff 233 (k : Int) q (ν1 233 45) 0 (SH L, ρ, ν1) = some (SH L, ρ, ν2) := by rw [w3]; exact c2
      obtain ⟨x1, x2, x3⟩ | ⟨x1, x2, x3⟩ := id wc
      · -- the END of the innermost range
        obtain ⟨i, hi⟩ : ∃ i : Nat, inn μ = i := ⟨(inn μ).toNat, by omega⟩
        obtain ⟨j1, j2⟩ | ⟨j1, j2, j3, j4, j5, j6⟩ := RSt_inn rs
        · omega
        have i9 : i ≤ 10 := by
          have := bC.2.1
          omega
        obtain ⟨μ3, ν3, p1, p2, pb⟩ := cut_both (L := L) rc rm hu hk oi2.1 rs2 cb3 (fr := μ1 24 7) (to := μ1 24 8) cb4 w6 (by omega)
        have rs3 := pb.rs oi2.1 rs2
        obtain ⟨pb1, pb2, pb3, pb4, pb5, pb6, pb7⟩ := id pb
        have m26 : μ3 26 0 = μ 26 0 := (pb6 _ _ (by omega)).trans v26
        have n26 : ν3 263 6 = μ 26 0 := rs3.2.2.1.trans m26
        have o5 := rs.2.1
        refine on (z_up μ3 26 0 (μ 26 0 - 1)) (z_up ν3 263 6 (μ 26 0 - 1)) (by
          obtain ⟨y1, y2⟩ | ⟨y1, y2⟩ := l2
          · omega
          · exact y1) ?_ ?_ ?_ ?_ ?_ ?_ ?_ ?_ ?_ ?_ ?_
        · unfold f_Gr_takeWinner
          rw [zgI_k s_24, Option.bind_some, v6, if_pos x1, zgI_k s_24, Option.bind_some, v7, zgI_k s_24, Option.bind_some, v8, zck_k s_24, Option.bind_some, p1, Option.bind_some]
          dsimp only
          rw [zgR_k s_24 rc.2.2.2.2.1.2.2.1 (by decide), Option.bind_some, zgI_k s_26, Option.bind_some, m26, zw_of (by omega) (by omega), zpI_k s_26, Option.bind_some]
        · rw [tm_close (by omega) a2 i9 (by omega), tm_goC rm (by omega) c2' (by rw [n45, n46]; exact p2) (by rw [n26]; omega), pb7 _ _ (by omega), n46, n26]
        · exact pb1.trans ⟨fun c j y1 y2 => z_up_ne (by omega), z_up_ne (by decide), z_up_ne (by decide), fun j _ _ => z_up_ne (by omega), fun j => z_up_ne (by omega)⟩
        · exact pb2.trans ⟨fun c j y1 => z_up_ne (by omega), fun j y1 => z_up_ne (by decide), fun c j y1 y2 => z_up_ne (by omega), fun c j y1 y2 => z_up_ne (by omega), fun j y => z_up_ne (by decide), fun j y => z_up_nj y, fun j y => z_up_ne (by decide), fun j y => z_up_ne (by decide), fun j y => z_up_ne (by decide)⟩
        · obtain ⟨q1, q2, q3, q4, q5⟩ := rs3
          have r93 : μ3 24 1 = μ1 24 1 := (pb6 _ _ (by omega)).trans r92
          unfold RSt
          rw [z_up_eq, z_up_eq, z_up_ne (by decide)]
          refine ⟨by omega, by omega, rfl, fun l hl => ?_, fun j hj => ?_⟩
          · obtain ⟨t1, t2, t3, t4⟩ := q4 l (by omega)
            rw [z_up_ne (by decide), z_up_ne (by decide)]
            have t2' : 1 ≤ μ3 27 l := t2
            have t3' : μ3 27 l ≤ μ3 24 1 := t3
            rw [z_up_ne (by omega)]
            exact ⟨t1, t2, t3, t4⟩
          · obtain ⟨t1, t2, t3⟩ := q5 j (by omega)
            rw [z_up_ne (by decide), z_up_ne (by decide)]
            refine ⟨t1, t2, fun c hc => ?_⟩
            rw [z_up_ne (by decide), z_up_ne (by decide)]
            exact t3 c hc
        · exact pb3.fr (fun c j y1 y2 => z_up_ne (by omega)) (fun c j y1 y2 => z_up_ne (by omega))
        · rw [z_up_ne (by omega)]; exact pb4
        · rw [z_up_ne (by decide), pb6 _ _ (by omega)]; exact v8
        · rw [z_up_ne (by omega)]; exact pb5 _ (by decide)
        · rw [z_up_ne (by decide)]; exact pb7 _ _ (by omega)
        · rw [z_up_eq]; omega
      · -- a rule
        obtain ⟨a, ha⟩ : ∃ a : Nat, μ1 24 6 = a := ⟨(μ1 24 6).toNat, by omega⟩
        have aR1 : (a : Int) ≤ μ1 24 1 := by
          have := bC.2.1
          omega
        rw [ha, Int.toNat_natCast] at l2
        obtain ⟨rg1, rg2⟩ := rr15 a aR1
        have b44 : ν1 233 44 = ((2 * a : Nat) : Int) := by omega
        have em := tm_rule (N := N' + 1) rm (show n' < 100 by omega) a2 (a := a) (by omega) b44 rg1 rg2
        have n26 : ν1 263 6 = μ1 26 0 := rs1.2.2.1
        rw [w4, n26] at em
        obtain ⟨y1, y2⟩ | ⟨y1, y2⟩ := l2
        · rw [if_pos (show μ1 24 8 = q ∨ μ1 (36 + 13 * a) 2 = 1 ∧ μ1 26 0 = 5 by omega)] at em
          exact last y1 em
        rw [if_neg (show ¬ (μ1 24 8 = q ∨ μ1 (36 + 13 * a) 2 = 1 ∧ μ1 26 0 = 5) by omega)] at em
        obtain ⟨-, -, pr3, -, -⟩ := r_pt rc (show a < 11 by omega)
        have rg3 : μ2 (36 + 13 * a) 2 = μ1 (36 + 13 * a) 2 := cb6 _ _ (by omega)
        have hd : f_Gr_takeWinner 24 (179 + 9 * u) (SH L, ρ, μ2) = (if μ1 (36 + 13 * a) 2 = 0 then (f_Gr_cut 24 (179 + 9 * u) (μ1 24 7) (μ1 24 8) (SH L, ρ, μ2)).bind (fun q9 => if q9.1 = 0 then some q9.2 else (z_gR q9.2 8 24 0).bind fun v10 => (z_gI q9.2 8 24 6).bind fun v11 => (z_aR q9.2 24 v10 v11).bind fun v12 => (z_gI q9.2 7 v12 4).bind fun v13 => (z_ck q9.2 2 (179 + 9 * u)).bind fun _ => (f_Li_addScope (179 + 9 * u) v13 q9.2).bind fun h15 => some h15) else (f_St_push 26 (a : Int) (SH L, ρ, μ2)).bind fun h20 => (z_gR h20 8 24 3).bind fun v21 => (z_gR h20 8 24 9).bind fun v22 => (z_aI h20 20 v22 0).bind fun v23 => (z_gR h20 8 24 9).bind fun v24 => (z_aI h20 20 v24 1).bind fun v25 => (z_ck h20 1 v21).bind fun _ => (f_St_keepText v21 1 (179 + 9 * u) v23 v25 h20).bind fun h27 => (z_gR h27 8 24 3).bind fun v28 => (z_gR h27 8 24 9).bind fun v29 => (z_aI h27 20 v29 2).bind fun v30 => (z_gR h27 8 24 9).bind fun v31 => (z_aI h27 20 v31 3).bind fun v32 => (z_ck h27 1 v28).bind fun _ => (f_St_keepText v28 2 (179 + 9 * u) v30 v32 h27).bind fun h34 => (z_gI h34 8 24 7).bind fun v35 => (z_gI h34 8 24 8).bind fun v36 => (z_ck h34 8 24).bind fun _ => (f_Gr_cut 24 (179 + 9 * u) v35 v36 h34).bind fun q38 => some q38.2) := by
          unfold f_Gr_takeWinner
          rw [zgI_k s_24, Option.bind_some, v6, ha, if_neg (by omega), zgR_k s_24 rc.2.2.2.2.1.1 (by decide), Option.bind_some, Option.bind_some, e_rule pr3 (by omega), Option.bind_some, zgI_k (sr_0 (by omega)), Option.bind_some, rg3, zgI_k s_24, Option.bind_some, v7, zgI_k s_24, Option.bind_some, v8, zck_k s_24, Option.bind_some, zgR_k s_24 rc.2.2.2.2.1.2.2.1 (by decide), Option.bind_some, Option.bind_some, zck_k s_26, Option.bind_some]
        obtain rg2 | rg2 := rg2
        · -- a PIECE
          have sc1 := rr16 a (by omega) aR1
          have scm : μ2 (36 + 13 * a) 4 = μ1 (36 + 13 * a) 4 := cb6 _ _ (by omega)
          have scn : ν2 237 a = μ1 (36 + 13 * a) 4 := (cb7 _ _ (by omega)).trans sc1.2.1
          obtain ⟨μ3, ν3, p1, p2, pb⟩ := cutP_both (L := L) rc rm hu hk oi2.1 rs2 cb3 (fr := μ1 24 7) (to := μ1 24 8) (sc := μ1 (36 + 13 * a) 4) cb4 w6 (by omega) sc1.2.2.1
          have rs3 := pb.rs oi2.1 rs2
          obtain ⟨pb1, pb2, pb3, pb4, pb5, pb6, pb7⟩ := id pb
          refine on μ3 ν3 y1 ?_ ?_ pb1 pb2 rs3 pb3 pb4 ((pb6 _ _ (by omega)).trans v8) (pb5 _ (by decide)) (pb7 _ _ (by omega)) (by rw [pb6 _ _ (by omega), v26]; omega)
          · rw [hd, if_pos rg2]
            obtain ⟨p3, p4⟩ | ⟨μ5, p3, p4, p5⟩ := p1
            · rw [p4, Option.bind_some]
              dsimp only
              rw [if_pos rfl]
            · rw [p3, Option.bind_some]
              dsimp only
              rw [if_neg (by decide), zgR_k s_24 rc.2.2.2.2.1.1 (by decide), Option.bind_some, zgI_k s_24, Option.bind_some, p5 24 6 (by omega), v6, ha, e_rule pr3 (by omega), Option.bind_some, zgI_k (sr_0 (by omega)), Option.bind_some, p5 _ _ (by omega), scm, zck_k (sl_0 hu), Option.bind_some, p4, Option.bind_some]
          · rw [em, rg2, tm_goP rm (by omega) (by omega) c2' (by rw [n45, n46, scn]; exact p2), pb7 _ _ (by omega), n46]
        · -- a RANGE
          have h5' : μ2 26 0 < 5 := by
            have := rs2.2.1
            have := k26 26 0 (by omega) (by omega)
            omega
          obtain ⟨μa, μb, μc, ν3, o1, o2, o3, o4, o5, o6, o7, o8, o9, o10, o11, o12, o13, o14⟩ := open_both (L := L) rc rm hu hk oi2.1 rs2 oi2.2.2.1 (a := a) (by omega) (by omega) (by rw [rg3]; exact rg2) h5' (fun g hg => by
            rw [cb6 31 g (by omega), cb7 268 g (by omega), l2']
            exact w8 g hg)
          have bC3 : BFC (179 + 9 * u) μ2 μc := ⟨fun c j q1 q2 => o7 c j (by omega), o7 _ _ (by omega), o7 _ _ (by omega), fun j _ _ => o7 _ _ (by omega), fun j => o7 _ _ (by omega)⟩
          have bM3 : BFM k ν2 ν3 := ⟨fun c j q1 => o8 c j (by omega), fun j q1 => o8 _ j (by omega), fun c j q1 q2 => o8 c j (by omega), fun c j q1 q2 => o8 c j (by omega), fun j q1 => o8 _ j (by omega), o9, o10, o11, o12⟩
          have oi3 := oi2.fr hk bC3 bM3
          have tk3 : TTk μc ν3 (179 + 9 * u) k := cb3.fr (fun c j q1 q2 => o7 c j (by omega)) (fun c j q1 q2 => o8 c j (by omega))
          have n45' : ν3 233 45 = μ1 24 7 := (o8 _ _ (by omega)).trans n45
          have n46' : ν3 233 46 = μ1 24 8 := (o8 _ _ (by omega)).trans n46
          obtain ⟨μ3, ν4, p1, p2, pb⟩ := cut_both (L := L) rc rm hu hk oi3.1 o13 tk3 (fr := μ1 24 7) (to := μ1 24 8) (by rw [o7 _ _ (by omega)]; exact cb4) w6 (by omega)
          have rs4 := pb.rs oi3.1 o13
          obtain ⟨pb1, pb2, pb3, pb4, pb5, pb6, pb7⟩ := id pb
          refine on μ3 ν4 y1 ?_ ?_ (bC3.trans pb1) (bM3.trans pb2) rs4 pb3 pb4 ((pb6 _ _ (by omega)).trans ((o7 _ _ (by omega)).trans v8)) ((pb5 _ (by decide)).trans (o7 _ _ (by omega))) ((pb7 _ _ (by omega)).trans (o8 _ _ (by omega))) (by rw [pb6 _ _ (by omega), o14, v26]; omega)
          · have z31 : (0 : Int).toNat = 0 ∧ (1 : Int).toNat = 1 ∧ (2 : Int).toNat = 2 ∧ (3 : Int).toNat = 3 := ⟨rfl, rfl, rfl, rfl⟩
            rw [hd, if_neg (by omega), o1, Option.bind_some, zgR_k s_24 rc.2.2.2.2.1.2.2.1 (by decide), Option.bind_some, zgR_k s_24 rc.2.2.2.2.1.2.2.2.2 (by decide), Option.bind_some, zaI_k s_31 (by decide) (by decide), Option.bind_some, Option.bind_some, zaI_k s_31 (by decide) (by decide), Option.bind_some, zck_k s_26, Option.bind_some, z31.1, z31.2.1, o5 31 0 (by omega), o5 31 1 (by omega), o2, Option.bind_some, zgR_k s_24 rc.2.2.2.2.1.2.2.1 (by decide), Option.bind_some, zgR_k s_24 rc.2.2.2.2.1.2.2.2.2 (by decide), Option.bind_some, zaI_k s_31 (by decide) (by decide), Option.bind_some, Option.bind_some, zaI_k s_31 (by decide) (by decide), Option.bind_some, zck_k s_26, Option.bind_some, z31.2.2.1, z31.2.2.2, o6 31 2 (by omega), o6 31 3 (by omega), o3, Option.bind_some, zgI_k s_24, Option.bind_some, zgI_k s_24, Option.bind_some, zck_k s_24, Option.bind_some, o7 24 7 (by omega), o7 24 8 (by omega), v7, v8, p1, Option.bind_some]
          · rw [em, rg2, tm_goO rm (by omega) c2' o4 (by rw [n45', n46']; exact p2), pb7 _ _ (by omega), n46']
end Lop
