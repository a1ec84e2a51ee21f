/-! The winner -/
def TLn (μ ν : Nat → Nat → Int) (l k : Nat) : Prop := lOk (μ l 1) (μ (l + 1)) ∧ ν 256 k = μ l 1 ∧ ∀ c : Nat, (c : Int) < μ l 1 → ν 257 (24 * k + c) = μ (l + 1) c
def FFC (μ μ' : Nat → Nat → Int) : Prop := (∀ c j, c ≠ 24 → c ≠ 30 → c ≠ 31 → c < 32 ∨ 35 < c → μ' c j = μ c j) ∧ μ' 24 1 = μ 24 1 ∧ μ' 32 0 = μ 32 0
def FFM (ν ν' : Nat → Nat → Int) : Prop := (∀ c j, c ≠ 233 → c ≠ 252 → c ≠ 253 → c ≠ 254 → c ≠ 255 → c ≠ 267 → c ≠ 268 → ν' c j = ν c j) ∧ ∀ j, j < 21 ∨ (27 ≤ j ∧ j < 44) ∨ 46 < j → ν' 233 j = ν 233 j
theorem FFC.trans {a b c : Nat → Nat → Int} (h : FFC a b) (g : FFC b c) : FFC a c := ⟨fun x j h1 h2 h3 h4 => (g.1 x j h1 h2 h3 h4).trans (h.1 x j h1 h2 h3 h4), g.2.1.trans h.2.1, g.2.2.trans h.2.2⟩
theorem FFM.trans {a b c : Nat → Nat → Int} (h : FFM a b) (g : FFM b c) : FFM a c := ⟨fun x j h1 h2 h3 h4 h5 h6 h7 => (g.1 x j h1 h2 h3 h4 h5 h6 h7).trans (h.1 x j h1 h2 h3 h4 h5 h6 h7), fun j hj => (g.2 j hj).trans (h.2 j hj)⟩
theorem FrC.ff {μ μ' : Nat → Nat → Int} (h : FrC μ μ') : FFC μ μ' := ⟨fun c j _ _ _ h4 => h.1 c j h4, h.1 _ _ (by omega), h.2⟩
theorem FrM.ff {μ μ' : Nat → Nat → Int} (h : FrM μ μ') : FFM μ μ' := ⟨fun c j h1 h2 h3 _ _ _ _ => h.1 c j h1 h2 h3, fun j hj => h.2 j (by omega)⟩
def FI (μ ν : Nat → Nat → Int) (l k : Nat) : Prop := RRules μ ν ∧ (ν 233 0 = μ 32 0 ∧ 10 ≤ μ 32 0 ∧ μ 32 0 ≤ 300) ∧ TLn μ ν l k ∧ RSt μ ν 26 6
theorem TLn.fr {μ ν μ' ν' : Nat → Nat → Int} {l k : Nat} (h : TLn μ ν l k) (h1 : ∀ c j, l ≤ c → c ≤ l + 1 → (c = l → j = 1) → μ' c j = μ c j) (h2 : ν' 256 k = ν 256 k) (h3 : ∀ j, 24 * k ≤ j → j < 24 * k + 24 → ν' 257 j = ν 257 j) : TLn μ' ν' l k := by
  obtain ⟨⟨a, b, c⟩, d, e⟩ := h
  have e1 : μ' l 1 = μ l 1 := h1 l 1 (Nat.le_refl _) (by omega) (fun _ => rfl)
  have e2 : ∀ j, μ' (l + 1) j = μ (l + 1) j := fun j => h1 (l + 1) j (by omega) (Nat.le_refl _) (fun h => by omega)
  unfold TLn lOk
  rw [e1, h2]
  refine ⟨⟨a, b, fun q hq => ?_⟩, d, fun q hq => ?_⟩
  · rw [e2]
    exact c q hq
  · rw [e2, h3 _ (by omega) (by omega)]
    exact e q hq
theorem FI.fr {μ ν μ' ν' : Nat → Nat → Int} {l k : Nat} (h : FI μ ν l k) (hl : 36 ≤ l) (hC : FFC μ μ') (hM : FFM ν ν') : FI μ' ν' l k := by
  obtain ⟨rr, rb, rl, rs⟩ := h
  obtain ⟨c1, c2, c3⟩ := hC
  obtain ⟨m1, m2⟩ := hM
  have r9 := rr.2.1
  refine ⟨rr.fr c2 (fun r j off g1 g2 => c1 _ _ (by omega) (by omega) (by omega) (by omega)) (fun r g1 => c1 _ _ (by omega) (by omega) (by omega) (by omega)) (m2 _ (by omega)) (fun c j g1 g2 => m1 _ _ (by omega) (by omega) (by omega) (by omega) (by omega) (by omega) (by omega)) (fun j hj => ⟨m1 _ _ (by omega) (by omega) (by omega) (by omega) (by omega) (by omega) (by omega), m1 _ _ (by omega) (by omega) (by omega) (by omega) (by omega) (by omega) (by omega)⟩) (fun c j g1 g2 g3 => m1 _ _ (by omega) (by omega) (by omega) (by omega) (by omega) (by omega) (by omega)), ?_, ?_, ?_⟩
  · rw [m2 0 (by omega), c3]
    exact rb
  · exact rl.fr (fun c j g1 g2 _ => c1 _ _ (by omega) (by omega) (by omega) (by omega)) (m1 _ _ (by decide) (by decide) (by decide) (by decide) (by decide) (by decide) (by decide)) (fun j _ _ => m1 _ _ (by decide) (by decide) (by decide) (by decide) (by decide) (by decide) (by decide))
  · exact rs.fr (fun c j g1 g2 => c1 _ _ (by omega) (by omega) (by omega) (by omega)) c2 (fun r g1 => c1 _ _ (by omega) (by omega) (by omega) (by omega)) (m1 _ _ (by decide) (by decide) (by decide) (by decide) (by decide) (by decide) (by decide)) (fun j _ _ => m1 _ _ (by decide) (by decide) (by decide) (by decide) (by decide) (by decide) (by decide)) (fun j _ _ => m1 _ _ (by decide) (by decide) (by decide) (by decide) (by decide) (by decide) (by decide)) (fun j _ _ => m1 _ _ (by decide) (by decide) (by decide) (by decide) (by decide) (by decide) (by decide))
theorem refOk.fr {μ ν μ' ν' : Nat → Nat → Int} (h : refOk μ ν 26) (h1 : ∀ c j, 26 ≤ c → c ≤ 29 → μ' c j = μ c j) (h2 : ∀ c j, c = 254 ∨ c = 255 → ν' c j = ν c j) : refOk μ' ν' 26 := by
  have e1 : ∀ f, rtN μ' 26 f = rtN μ 26 f := by
    intro f
    unfold rtN
    rw [h1 26 _ (by omega) (by omega), h1 (26 + 2) _ (by omega) (by omega)]
  have e2 : ∀ f, rtC μ' 26 f = rtC μ 26 f := by
    intro f
    unfold rtC
    funext i
    rw [h1 26 _ (by omega) (by omega), h1 (26 + 3) _ (by omega) (by omega)]
  intro t ht
  obtain ⟨a, b, c⟩ := h t ht
  rw [h2 254 _ (by omega), e1, e2]
  refine ⟨a, b, fun i hi => ?_⟩
  rw [h2 255 _ (by omega)]
  exact c i hi
theorem inn_fr {μ μ' : Nat → Nat → Int} (h1 : ∀ c j, 26 ≤ c → c ≤ 27 → μ' c j = μ c j) : inn μ' = inn μ := by
  unfold inn
  rw [h1 26 _ (by omega) (by omega), h1 27 _ (by omega) (by omega)]
/-- the winner so far -/
def WR (q len i R : Int) (μ ν : Nat → Nat → Int) : Prop := (μ 24 6 = -1 ∧ ν 233 44 = -1) ∨ (CD i R (μ 24 6) (ν 233 44) ∧ ν 233 45 = μ 24 7 ∧ ν 233 46 = μ 24 8 ∧ q ≤ μ 24 7 ∧ μ 24 7 ≤ μ 24 8 ∧ μ 24 8 ≤ len ∧ ∀ g : Nat, g < 6 → ν 268 g = μ 31 g ∧ -1 ≤ μ 31 g ∧ μ 31 g ≤ len)
section Fnd
variable {L : Nat} {ρ : Nat → Nat → Nat}
theorem e_keepW (rc : Rc ρ) (a : Int) (μ : Nat → Nat → Int) : ∃ μ', f_Gr_keepWinner 24 a (SH L, ρ, μ) = some (SH L, ρ, μ') ∧ (∀ c j, ¬ (c = 24 ∧ 6 ≤ j ∧ j ≤ 8) → c ≠ 31 → μ' c j = μ c j) ∧ μ' 24 6 = a ∧ μ' 24 7 = μ 32 2 ∧ μ' 24 8 = μ 32 3 ∧ ∀ g, g < 6 → μ' 31 g = μ 33 g := by
  refine ⟨cpU (z_up (z_up (z_up μ 24 6 a) 24 7 (μ 32 2)) 24 8 (μ 32 3)) 33 31 6, ?_, fun c j h1 h2 => ?_, ?_, ?_, ?_, fun g hg => ?_⟩
  · unfold f_Gr_keepWinner
    simp (disch := omega) only [zpI_k s_24, Option.bind_some, zgR_k s_24 rc.2.2.2.2.1.2.1 (by decide), zgI_k s_32, z_up_ne, zgR_k s_32 rc.2.2.2.2.2.1.1 (by decide), zgR_k s_24 rc.2.2.2.2.1.2.2.2.2 (by decide), zlen_k s_31 (by decide), zcp0 6 s_33 s_31 (show ((6 : Nat) : Int) = ((6 : Nat) : Int) from rfl) (Nat.le_refl _) (Nat.le_refl _)]
  · rw [cpU_ne h2, z_up, if_neg (by omega), z_up, if_neg (by omega), z_up, if_neg (by omega)]
  · rw [cpU_ne (by decide), z_up_nj (by decide), z_up_nj (by decide), z_up_eq]
  · rw [cpU_ne (by decide), z_up_nj (by decide), z_up_eq]
  · rw [cpU_ne (by decide), z_up_eq]
  · rw [cpU_lt hg, z_up_ne (by decide), z_up_ne (by decide), z_up_ne (by decide)]
theorem m_f96 (rm : Rm ρ) {a1 a2 a3 a4 : Int} (K : Nat → Int → Int → Int → Int → zH → Option (Int × zH)) : ∀ (m N g : Nat) (ν : Nat → Nat → Int), g + m = 6 → m < N → ∃ ν', f_Mo_findBest_96 K N 233 a1 a2 a3 a4 (g : Int) (SH L, ρ, ν) = f_Mo_findBest_123 K 233 a1 a2 a3 a4 (SH L, ρ, ν') ∧ (∀ c i, c ≠ 268 → ν' c i = ν c i) ∧ (∀ i, i < g → ν' 268 i = ν 268 i) ∧ ∀ i, g ≤ i → i < 6 → ν' 268 i = ν 252 i := by
  intro m
  induction m with
  | zero =>
    intro N g ν hg hN
    obtain ⟨N, rfl⟩ : ∃ k, N = k + 1 := ⟨N - 1, by omega⟩
    refine ⟨ν, ?_, fun _ _ _ => rfl, fun _ _ => rfl, fun i h1 h2 => by omega⟩
    rw [f_Mo_findBest_96]
    show (if _ then _ else _) = _
    rw [if_pos (by omega)]
  | succ m ih =>
    intro N g ν hg hN
    obtain ⟨N, rfl⟩ : ∃ k, N = k + 1 := ⟨N - 1, by omega⟩
    obtain ⟨ν', e1, e2, e3, e4⟩ := ih N (g + 1) (z_up ν 268 g (ν 252 g)) (by omega) (by omega)
    refine ⟨ν', ?_, fun c i h => (e2 c i h).trans (z_up_ne h), fun i h => (e3 i (by omega)).trans (z_up_nj (by omega)), fun i h1 h2 => ?_⟩
    · rw [f_Mo_findBest_96]
      show (if _ then _ else _) = _
      rw [if_neg (by omega)]
      simp (disch := omega) only [zgR_k s_233 (m_47 rm) (by decide), zgR_k s_233 (m_25 rm) (by decide), Option.bind_some, zw_of, zaI_k s_252, zsI_k s_268, Int.toNat_natCast]
      rw [show ((g + 1 : Nat) : Int) = (g : Int) + 1 by omega] at e1
      exact e1
    · by_cases hi : i = g
      · rw [hi, e3 g (by omega), z_up_eq]
      · rw [e4 i (by omega) h2, z_up_ne (by decide)]
theorem find_loop (rc : Rc ρ) (rm : Rm ρ) {u k : Nat} (hu : u < 6) (hk : k < 6) {q : Int} (q0 : 0 ≤ q) {i n : Nat} {R : Int} {len : Int} (ql : q ≤ len) (hn : n ≤ 19) : ∀ (m N N' j : Nat) (μ ν : Nat → Nat → Int), j + m = n → m < N → m < N' → FI μ ν (179 + 9 * u) k → (1 ≤ i → refOk μ ν 26) → inn μ = i → μ 24 1 = R → μ (179 + 9 * u) 1 = len → μ 24 5 = n → (∀ j : Nat, j < n → CD i R (μ 30 j) (ν 267 j)) → WR q len i R μ ν →
    ∃ (z : Int) (μ' ν' : Nat → Nat → Int), f_Gr_findWinner_25 N 24 (179 + 9 * u) q (36 + 13 * i) (j : Int) (SH L, ρ, μ) = some (z, (SH L, ρ, μ')) ∧ f_Mo_findBest_13 N' 233 (k : Int) q (n : Int) (j : Int) (SH L, ρ, ν) = some (z, (SH L, ρ, ν')) ∧ (z = 0 ∨ z = 1) ∧ FFC μ μ' ∧ FFM ν ν' ∧ (z = 1 → WR q len i R μ' ν') := by
  intro m
  induction m with
  | zero =>
    intro N N' j μ ν hj hN hN' hF hrf hi hR hl h5 hc hw
    obtain ⟨N, rfl⟩ : ∃ k, N = k + 1 := ⟨N - 1, by omega⟩
    obtain ⟨N', rfl⟩ : ∃ k, N' = k + 1 := ⟨N' - 1, by omega⟩
    refine ⟨1, μ, ν, ?_, ?_, Or.inr rfl, ⟨fun _ _ _ _ _ _ => rfl, rfl, rfl⟩, ⟨fun _ _ _ _ _ _ _ _ _ => rfl, fun _ _ => rfl⟩, fun _ => hw⟩
    · rw [f_Gr_findWinner_25]
      show (z_gI _ _ _ _).bind _ = _
      rw [zgI_k s_24, Option.bind_some, h5, if_pos (by omega)]
    · rw [f_Mo_findBest_13]
      show (if _ then _ else _) = _
      rw [if_pos (by omega)]
  | succ m ih =>
    intro N N' j μ ν hj hN hN' hF hrf hi hR hl h5 hc hw
    obtain ⟨N, rfl⟩ : ∃ k, N = k + 1 := ⟨N - 1, by omega⟩
    obtain ⟨N', rfl⟩ : ∃ k, N' = k + 1 := ⟨N' - 1, by omega⟩
    obtain ⟨rr, ⟨rb, b10, b3⟩, ⟨lo, le, lt⟩, rs⟩ := id hF
    obtain ⟨r0, r9, re, -, -, rp, -⟩ := id rr
    obtain ⟨s0, s5, se, sr, st⟩ := id rs
    have so : stOk μ 26 := ⟨s0, s5, fun j hj => ⟨(st j hj).2.1, fun c hc => ((st j hj).2.2 c hc).2⟩⟩
    have hi9 : i ≤ 9 := by
      obtain ⟨i1, i2⟩ | ⟨i1, i2, i3, i4, i5, i6⟩ := RSt_inn rs <;> omega
    have S : ∃ (p pt : Nat) (en : Bool) (γ : Gh), Sta L ρ μ ν p pt (179 + 9 * u) k 26 en γ ∧ ν 267 j = pt ∧ f_Gr_findWinner_25 (N + 1) 24 (179 + 9 * u) q (36 + 13 * i) (j : Int) (SH L, ρ, μ) = f_Gr_findWinner_65 (f_Gr_findWinner_25 N) 24 (179 + 9 * u) q (36 + 13 * i) (j : Int) (μ 30 j) p (SH L, ρ, μ) := by
      have e0 : f_Gr_findWinner_25 (N + 1) 24 (179 + 9 * u) q (36 + 13 * i) (j : Int) (SH L, ρ, μ) = if μ 30 j = 0 then (z_gR (SH L, ρ, μ) 7 (36 + 13 * i) 1).bind fun v25 => f_Gr_findWinner_65 (f_Gr_findWinner_25 N) 24 (179 + 9 * u) q (36 + 13 * i) (j : Int) (μ 30 j) v25 (SH L, ρ, μ) else (z_aR (SH L, ρ, μ) 24 25 (μ 30 j)).bind fun v23 => (z_gR (SH L, ρ, μ) 7 v23 0).bind fun v24 => f_Gr_findWinner_65 (f_Gr_findWinner_25 N) 24 (179 + 9 * u) q (36 + 13 * i) (j : Int) (μ 30 j) v24 (SH L, ρ, μ) := by
        rw [f_Gr_findWinner_25]
        show (z_gI _ _ _ _).bind _ = _
        rw [zgI_k s_24, Option.bind_some, h5, if_neg (by omega), zgR_k s_24 rc.2.2.2.2.1.2.2.2.1 (by decide), Option.bind_some, zaI_k s_30 (by omega) (by omega), Option.bind_some, Int.toNat_natCast, zgR_k s_24 rc.2.2.2.2.1.1 (by decide), Option.bind_some]
      rw [e0]
      obtain ⟨c1, c2, c3⟩ | ⟨c1, c2, c3⟩ := hc j (by omega)
      · obtain ⟨i1, i2⟩ | ⟨i1, i2, i3, i4, i5, i6⟩ := RSt_inn rs
        · omega
        obtain ⟨pr1, pr2, pr3, pr4, pr5⟩ := r_pt rc (show i < 11 by omega)
        rw [hi, Int.toNat_natCast] at i5
        obtain ⟨-, -, -, -, -, hpe⟩ := rp i (by omega) (by omega)
        obtain ⟨hn', γ, hg⟩ := hpe i5
        rw [if_pos c1, zgR_k (sr_0 (by omega)) pr5 (by omega), Option.bind_some]
        exact ⟨43 + 13 * i, 2 * i + 1, true, γ, ⟨⟨rc, rm⟩, ⟨s_pe (by omega), pr2, by omega⟩, ⟨s_ln hu, rc.2.2.2.2.2.2.2 u hu, by omega⟩, ⟨s_st26, rc.2.2.2.1.2.2, by omega, so⟩, ⟨by omega, hk⟩, ⟨lo, le, lt⟩, ⟨by omega, b3, rb⟩, ⟨hn', hg⟩, fun _ => hrf (by omega)⟩, by omega, rfl⟩
      · obtain ⟨a, ha⟩ : ∃ a : Nat, μ 30 j = a := ⟨(μ 30 j).toNat, by omega⟩
        obtain ⟨pr1, pr2, pr3, pr4, pr5⟩ := r_pt rc (show a < 11 by omega)
        obtain ⟨-, -, -, -, ⟨hn', γ, hg⟩, -⟩ := rp a (by omega) (by omega)
        rw [if_neg (by omega), ha, e_rule pr3 (by omega), Option.bind_some, zgR_k (sr_0 (by omega)) pr4 (by omega), Option.bind_some]
        exact ⟨37 + 13 * a, 2 * a, false, γ, ⟨⟨rc, rm⟩, ⟨s_pt (by omega), pr1, by omega⟩, ⟨s_ln hu, rc.2.2.2.2.2.2.2 u hu, by omega⟩, ⟨s_st26, rc.2.2.2.1.2.2, by omega, so⟩, ⟨by omega, hk⟩, ⟨lo, le, lt⟩, ⟨by omega, b3, rb⟩, ⟨hn', hg⟩, fun h => by cases h⟩, by omega, rfl⟩
    obtain ⟨p, pt, en, γ, S, ept, eC⟩ := S
    obtain ⟨μ1, ν1, s1, s2, f1, f2, ⟨-, -, -, o2, o3, o4⟩⟩ := search S (fr := q) q0 (by omega)
    have k1 : ∀ c j, c < 32 ∨ 35 < c → μ1 c j = μ c j := f1.1
    have eC2 : f_Gr_findWinner_25 (N + 1) 24 (179 + 9 * u) q (36 + 13 * i) (j : Int) (SH L, ρ, μ) = if μ1 32 5 = 0 then (if μ1 32 2 = -1 then f_Gr_findWinner_25 N 24 (179 + 9 * u) q (36 + 13 * i) ((j + 1 : Nat) : Int) (SH L, ρ, μ1) else if μ 24 6 = -1 then f_Gr_findWinner_127 (f_Gr_findWinner_25 N) 24 (179 + 9 * u) q (36 + 13 * i) (j : Int) (μ 30 j) (SH L, ρ, μ1) else if μ 24 7 ≤ μ1 32 2 then f_Gr_findWinner_25 N 24 (179 + 9 * u) q (36 + 13 * i) ((j + 1 : Nat) : Int) (SH L, ρ, μ1) else f_Gr_findWinner_127 (f_Gr_findWinner_25 N) 24 (179 + 9 * u) q (36 + 13 * i) (j : Int) (μ 30 j) (SH L, ρ, μ1)) else some (0, (SH L, ρ, μ1)) := by
      rw [eC]
      unfold f_Gr_findWinner_65 f_Gr_findWinner_133
      rw [show ((j + 1 : Nat) : Int) = (j : Int) + 1 by omega, zw_of (x := (j : Int) + 1) (by omega) (by omega)]
      simp only [zgR_k s_24 rc.2.2.2.2.1.2.1 (show (32 : Nat) ≠ 0 by decide), zgR_k s_24 rc.2.2.2.2.1.2.2.1 (show (26 : Nat) ≠ 0 by decide), Option.bind_some, zck_k s_32, s1, zgI_k s_32, zgI_k s_24, k1 24 6 (by omega), k1 24 7 (by omega)]
    have eM2 : f_Mo_findBest_13 (N' + 1) 233 (k : Int) q (n : Int) (j : Int) (SH L, ρ, ν) = if ν1 233 22 = 0 then (if ν1 233 23 < 0 then f_Mo_findBest_13 N' 233 (k : Int) q (n : Int) ((j + 1 : Nat) : Int) (SH L, ρ, ν1) else if ν 233 44 < 0 then f_Mo_findBest_66 (f_Mo_findBest_13 N') 233 (k : Int) q (n : Int) (j : Int) (SH L, ρ, ν1) else if ν 233 45 ≤ ν1 233 23 then f_Mo_findBest_13 N' 233 (k : Int) q (n : Int) ((j + 1 : Nat) : Int) (SH L, ρ, ν1) else f_Mo_findBest_66 (f_Mo_findBest_13 N') 233 (k : Int) q (n : Int) (j : Int) (SH L, ρ, ν1)) else some (0, (SH L, ρ, ν1)) := by
      rw [f_Mo_findBest_13]
      show (if _ then _ else _) = _
      unfold f_Mo_findBest_123
      rw [if_neg (by omega), zgR_k s_233 (m_43 rm) (by decide), Option.bind_some, zaI_k s_267 (by omega) (by omega), Option.bind_some, Int.toNat_natCast, zck_k s_233, Option.bind_some, ept, s2, Option.bind_some, show ((j + 1 : Nat) : Int) = (j : Int) + 1 by omega, zw_of (x := (j : Int) + 1) (by omega) (by omega)]
      simp only [zgI_k s_233, Option.bind_some, f2.2 44 (by omega), f2.2 45 (by omega)]
    have base : ∀ (μ2 ν2 : Nat → Nat → Int), FFC μ1 μ2 → FFM ν1 ν2 → (∀ c j, c = 30 ∨ (26 ≤ c ∧ c ≤ 29) ∨ (c = 24 ∧ j = 5) → μ2 c j = μ1 c j) → (∀ c j, c = 254 ∨ c = 255 ∨ c = 267 → ν2 c j = ν1 c j) → WR q len i R μ2 ν2 → ∃ (z : Int) (μ' ν' : Nat → Nat → Int), f_Gr_findWinner_25 N 24 (179 + 9 * u) q (36 + 13 * i) ((j + 1 : Nat) : Int) (SH L, ρ, μ2) = some (z, (SH L, ρ, μ')) ∧ f_Mo_findBest_13 N' 233 (k : Int) q (n : Int) ((j + 1 : Nat) : Int) (SH L, ρ, ν2) = some (z, (SH L, ρ, ν')) ∧ (z = 0 ∨ z = 1) ∧ FFC μ μ' ∧ FFM ν ν' ∧ (z = 1 → WR q len i R μ' ν') := by
      intro μ2 ν2 g1 g2 g3 g4 g5
      have hC := f1.ff.trans g1
      have hM := f2.ff.trans g2
      obtain ⟨z, μ', ν', t1, t2, t3, t4, t5, t6⟩ := ih N N' (j + 1) μ2 ν2 (by omega) (by omega) (by omega) (hF.fr (by omega) hC hM) (fun h => (hrf h).fr (fun c j a b => hC.1 c j (by omega) (by omega) (by omega) (by omega)) (fun c j a => (g4 c j (by omega)).trans (f2.1 c j (by omega) (by omega) (by omega)))) ((inn_fr fun c j a b => hC.1 c j (by omega) (by omega) (by omega) (by omega)).trans hi) (hC.2.1.trans hR) ((hC.1 _ _ (by omega) (by omega) (by omega) (by omega)).trans hl) ((g3 24 5 (by omega)).trans ((k1 24 5 (by omega)).trans h5)) (fun j hj => by rw [g3 30 j (by omega), k1 30 j (by omega), g4 267 j (by omega), f2.1 267 j (by decide) (by decide) (by decide)]; exact hc j hj) g5
      exact ⟨z, μ', ν', t1, t2, t3, hC.trans t4, hM.trans t5, t6⟩
    have hw1 : WR q len i R μ1 ν1 := by
      unfold WR at hw ⊢
      rw [k1 24 6 (by omega), k1 24 7 (by omega), k1 24 8 (by omega), f2.2 44 (by omega), f2.2 45 (by omega), f2.2 46 (by omega)]
      obtain hw | ⟨w1, w2, w3, w4, w5, w6, w7⟩ := hw
      · exact Or.inl hw
      · refine Or.inr ⟨w1, w2, w3, w4, w5, w6, fun g hg => ?_⟩
        rw [k1 31 g (by omega), f2.1 268 g (by decide) (by decide) (by decide)]
        exact w7 g hg
    have keep : ∀ (b : Bool), (μ1 32 5 = 0 ∧ q ≤ μ1 32 2 ∧ μ1 32 2 ≤ μ1 32 3 ∧ μ1 32 3 ≤ len ∧ ν1 233 24 = μ1 32 3 ∧ ∀ g, g < 6 → ν1 252 g = μ1 33 g ∧ -1 ≤ μ1 33 g ∧ μ1 33 g ≤ len) → ∃ (z : Int) (μ' ν' : Nat → Nat → Int), f_Gr_findWinner_127 (f_Gr_findWinner_25 N) 24 (179 + 9 * u) q (36 + 13 * i) (j : Int) (μ 30 j) (SH L, ρ, μ1) = some (z, (SH L, ρ, μ')) ∧ f_Mo_findBest_66 (f_Mo_findBest_13 N') 233 (k : Int) q (n : Int) (j : Int) (SH L, ρ, ν1) = some (z, (SH L, ρ, ν')) ∧ (z = 0 ∨ z = 1) ∧ FFC μ μ' ∧ FFM ν ν' ∧ (z = 1 → WR q len i R μ' ν') := by
      intro _ ⟨p1, p2, p3, p4, p5, p6⟩
      obtain ⟨μ2, a1, a2, a3, a4, a5, a6⟩ := e_keepW (L := L) rc (μ 30 j) μ1
      obtain ⟨ν2, b1, b2, b3, b4⟩ := m_f96 (L := L) rm (a1 := (k : Int)) (a2 := q) (a3 := (n : Int)) (a4 := (j : Int)) (f_Mo_findBest_13 N') 6 100000 0 (z_up (z_up (z_up ν1 233 44 (ν 267 j)) 233 45 (ν1 233 23)) 233 46 (ν1 233 24)) (by omega) (by omega)
      have upM : ∀ c i, ¬ (c = 233 ∧ 44 ≤ i ∧ i ≤ 46) → z_up (z_up (z_up ν1 233 44 (ν 267 j)) 233 45 (ν1 233 23)) 233 46 (ν1 233 24) c i = ν1 c i := by
        intro c i h
        rw [z_up, if_neg (by omega), z_up, if_neg (by omega), z_up, if_neg (by omega)]
      have eC3 : f_Gr_findWinner_127 (f_Gr_findWinner_25 N) 24 (179 + 9 * u) q (36 + 13 * i) (j : Int) (μ 30 j) (SH L, ρ, μ1) = f_Gr_findWinner_25 N 24 (179 + 9 * u) q (36 + 13 * i) ((j + 1 : Nat) : Int) (SH L, ρ, μ2) := by
        unfold f_Gr_findWinner_127 f_Gr_findWinner_133
        rw [zck_k s_24, Option.bind_some, a1, Option.bind_some, zw_of (by omega) (by omega), show ((j + 1 : Nat) : Int) = (j : Int) + 1 by omega]
      have eM3 : f_Mo_findBest_66 (f_Mo_findBest_13 N') 233 (k : Int) q (n : Int) (j : Int) (SH L, ρ, ν1) = f_Mo_findBest_13 N' 233 (k : Int) q (n : Int) ((j + 1 : Nat) : Int) (SH L, ρ, ν2) := by
        unfold f_Mo_findBest_66
        rw [zgR_k s_233 (m_43 rm) (by decide), Option.bind_some, zaI_k s_267 (by omega) (by omega), Option.bind_some, Int.toNat_natCast, f2.1 267 j (by decide) (by decide) (by decide), zpI_k s_233, Option.bind_some, zgI_k s_233, Option.bind_some, z_up_nj (by decide), zpI_k s_233, Option.bind_some, zgI_k s_233, Option.bind_some, z_up_nj (by decide), z_up_nj (by decide), zpI_k s_233, Option.bind_some]
        refine b1.trans ?_
        unfold f_Mo_findBest_123
        rw [zw_of (by omega) (by omega), show ((j + 1 : Nat) : Int) = (j : Int) + 1 by omega]
      rw [eC3, eM3]
      refine base μ2 ν2 ⟨fun c j h1 h2 h3 h4 => a2 c j (by omega) h3, a2 _ _ (by omega) (by decide), a2 _ _ (by omega) (by decide)⟩ ⟨fun c j h1 h2 h3 h4 h5 h6 h7 => (b2 c j h7).trans (upM c j (by omega)), fun j hj => (b2 233 j (by decide)).trans (upM 233 j (by omega))⟩ (fun c j h => a2 c j (by omega) (by omega)) (fun c j h => (b2 c j (by omega)).trans (upM c j (by omega))) (Or.inr ⟨?_, ?_, ?_, ?_, ?_, ?_, fun g hg => ?_⟩)
      · rw [a3, b2 233 44 (by decide), z_up_nj (by decide), z_up_nj (by decide), z_up_eq]
        exact hc j (by omega)
      · rw [a4, b2 233 45 (by decide), z_up_nj (by decide), z_up_eq, o3]
      · rw [a5, b2 233 46 (by decide), z_up_eq, p5]
      · rw [a4]; exact p2
      · rw [a4, a5]; exact p3
      · rw [a5]; exact p4
      · rw [a6 g hg, b4 g (Nat.zero_le _) hg, upM 252 g (by omega)]
        exact p6 g hg
    rw [eC2, eM2, o2, o3]
    rw [hl] at o4
    obtain ⟨p1, p2, p3, p4, p5, p6⟩ | ⟨p1, p2, p3⟩ := o4
    · rw [if_pos p1, if_pos p1, if_neg (show ¬ μ1 32 2 = -1 by omega), if_neg (show ¬ μ1 32 2 < 0 by omega)]
      obtain ⟨w1, w2⟩ | ⟨w1, w2, w3, w4, w5, w6, w7⟩ := id hw
      · rw [if_pos w1, if_pos (show ν 233 44 < 0 by omega)]
        exact keep true ⟨p1, p2, p3, p4, p5, p6⟩
      · have w8 : 0 ≤ μ 24 6 ∧ 0 ≤ ν 233 44 := by
          obtain ⟨x1, x2, x3⟩ | ⟨x1, x2, x3⟩ := w1 <;> omega
        rw [if_neg (show ¬ μ 24 6 = -1 by omega), if_neg (show ¬ ν 233 44 < 0 by omega), w2]
        by_cases hb : μ 24 7 ≤ μ1 32 2
        · rw [if_pos hb, if_pos hb]
          exact base μ1 ν1 ⟨fun _ _ _ _ _ _ => rfl, rfl, rfl⟩ ⟨fun _ _ _ _ _ _ _ _ _ => rfl, fun _ _ => rfl⟩ (fun _ _ _ => rfl) (fun _ _ _ => rfl) hw1
        · rw [if_neg hb, if_neg hb]
          exact keep true ⟨p1, p2, p3, p4, p5, p6⟩
    · obtain p1 | p1 := p1
      · rw [if_pos p1, if_pos p1, if_pos p2, if_pos (show μ1 32 2 < 0 by omega)]
        exact base μ1 ν1 ⟨fun _ _ _ _ _ _ => rfl, rfl, rfl⟩ ⟨fun _ _ _ _ _ _ _ _ _ => rfl, fun _ _ => rfl⟩ (fun _ _ _ => rfl) (fun _ _ _ => rfl) hw1
      · rw [if_neg (show ¬ μ1 32 5 = 0 by omega), if_neg (show ¬ μ1 32 5 = 0 by omega)]
        exact ⟨0, μ1, ν1, rfl, rfl, Or.inl rfl, f1.ff, f2.ff, fun h => by omega⟩
theorem find_both (rc : Rc ρ) (rm : Rm ρ) {u k : Nat} (hu : u < 6) (hk : k < 6) {q : Int} (q0 : 0 ≤ q) {μ ν : Nat → Nat → Int} (hF : FI μ ν (179 + 9 * u) k) (ql : q ≤ μ (179 + 9 * u) 1) : ∃ (z : Int) (μ' ν' : Nat → Nat → Int), f_Gr_findWinner 24 (179 + 9 * u) q (SH L, ρ, μ) = some (z, (SH L, ρ, μ')) ∧ f_Mo_findBest 233 (k : Int) q (SH L, ρ, ν) = some (z, (SH L, ρ, ν')) ∧ (z = 0 ∨ z = 1) ∧ FFC μ μ' ∧ FFM ν ν' ∧ (z = 1 → WR q (μ (179 + 9 * u) 1) (inn μ) (μ 24 1) μ' ν') := by
  obtain ⟨rr, rb, rl, rs⟩ := id hF
  obtain ⟨i, hi, hi9⟩ : ∃ i : Nat, inn μ = i ∧ i ≤ 9 := by
    have r9 := rr.2.1
    obtain ⟨i1, i2⟩ | ⟨i1, i2, i3, i4, i5, i6⟩ := RSt_inn rs
    · exact ⟨0, i2, by omega⟩
    · exact ⟨(inn μ).toNat, by omega, by omega⟩
  obtain ⟨n, μ1, ν1, a1, a2, a3, a4, a5, a6, a7, a8⟩ := cands_both (L := L) rc rm rr rs
  have hC : FFC μ (z_up μ1 24 6 (-1)) := ⟨fun c j h1 h2 h3 h4 => (z_up_ne h1).trans (a6 c j h2 (by omega)), (z_up_nj (by decide)).trans (a6 _ _ (by decide) (by decide)), (z_up_ne (by decide)).trans (a6 _ _ (by decide) (by decide))⟩
  have hM : FFM ν (z_up ν1 233 44 (-1)) := ⟨fun c j h1 h2 h3 h4 h5 h6 h7 => (z_up_ne h1).trans (a7 c j h4 h5 h6), fun j hj => (z_up_nj (by omega)).trans (a7 _ _ (by decide) (by decide) (by decide))⟩
  obtain ⟨-, -, pr3, -, -⟩ := r_pt rc (show i < 11 by omega)
  obtain ⟨z, μ', ν', t1, t2, t3, t4, t5, t6⟩ := find_loop (L := L) rc rm hu hk q0 (i := i) (n := n) (R := μ 24 1) (len := μ (179 + 9 * u) 1) ql a3 n 100000 100000 0 (z_up μ1 24 6 (-1)) (z_up ν1 233 44 (-1)) (by omega) (by omega) (by omega) (hF.fr (by omega) hC hM) (fun h => (a8 (by omega)).fr (fun c j g1 g2 => z_up_ne (by omega)) (fun c j g => z_up_ne (by omega))) ((inn_fr fun c j g1 g2 => hC.1 c j (by omega) (by omega) (by omega) (by omega)).trans hi) hC.2.1 (hC.1 _ _ (by omega) (by omega) (by omega) (by omega)) ((z_up_nj (by decide)).trans a4) (fun j hj => by rw [z_up_ne (by decide), z_up_ne (by decide), ← hi]; exact a5 j hj) (Or.inl ⟨z_up_eq, z_up_eq⟩)
  rw [hi]
  refine ⟨z, μ', ν', ?_, ?_, t3, hC.trans t4, hM.trans t5, t6⟩
  · unfold f_Gr_findWinner
    rw [zgR_k s_24 rc.2.2.2.2.1.1 (by decide), Option.bind_some, zgR_k s_24 rc.2.2.2.2.1.2.2.1 (by decide), Option.bind_some, zck_k s_26, Option.bind_some, e_innermost rc rs.1 rs.2.1, Option.bind_some]
    dsimp only
    rw [hi, e_rule pr3 (by omega), Option.bind_some, zck_k s_24, Option.bind_some, a1, Option.bind_some, zpI_k s_24, Option.bind_some]
    exact t1
  · unfold f_Mo_findBest
    rw [zck_k s_233, Option.bind_some, a2, Option.bind_some]
    dsimp only
    rw [zpI_k s_233, Option.bind_some]
    exact t2
end Fnd
