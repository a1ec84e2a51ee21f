/-! Copies of states -/
def cpU (μ : Nat → Nat → Int) (c0 c1 m : Nat) : Nat → Nat → Int := fun a j => if a = c1 ∧ j < m then μ c0 j else μ a j
theorem cpU_ne {μ : Nat → Nat → Int} {c0 c1 m a j : Nat} (h : a ≠ c1) : cpU μ c0 c1 m a j = μ a j := if_neg fun g => h g.1
theorem cpU_lt {μ : Nat → Nat → Int} {c0 c1 m j : Nat} (h : j < m) : cpU μ c0 c1 m c1 j = μ c0 j := if_pos ⟨rfl, h⟩
theorem zcp0 {S : List (Nat × Nat)} {ρ : Nat → Nat → Nat} {μ : Nat → Nat → Int} {k c0 c1 n0 n1 : Nat} {n : Int} (m : Nat) (h0 : S[c0]? = some (k, n0)) (h1 : S[c1]? = some (k, n1)) (hn : n = m) (g4 : m ≤ n0) (g5 : m ≤ n1) : z_cp (S, ρ, μ) k c0 0 c1 0 n = some (S, ρ, cpU μ c0 c1 m) := by
  subst hn
  rw [zcp_k h0 h1 (by omega) (by omega) (by omega) (by omega) (by omega)]
  refine congrArg (fun f => some (S, ρ, f)) ?_
  funext a j
  simp [cpU]
theorem e_copyS {L : Nat} {ρ : Nat → Nat → Nat} {a b : Nat} (ha : stS L a) (hb : stS L b) (ra : stR ρ a) (rb : stR ρ b) (hab : a + 4 ≤ b ∨ b + 4 ≤ a) (μ : Nat → Nat → Int) : ∃ μ', f_St_copy a b (SH L, ρ, μ) = some (SH L, ρ, μ') ∧ (∀ c j, c < a ∨ a + 3 < c → μ' c j = μ c j) ∧ μ' a 0 = μ b 0 ∧ (∀ j, j < 5 → μ' (a + 1) j = μ (b + 1) j) ∧ (∀ j, j < 10 → μ' (a + 2) j = μ (b + 2) j) ∧ ∀ j, j < 240 → μ' (a + 3) j = μ (b + 3) j := by
  refine ⟨cpU (cpU (cpU (z_up μ a 0 (μ b 0)) (b + 1) (a + 1) 5) (b + 2) (a + 2) 10) (b + 3) (a + 3) 240, ?_, ?_, ?_, ?_, ?_, ?_⟩
  · unfold f_St_copy
    rw [zgI_k hb.1, Option.bind_some, zpI_k ha.1, Option.bind_some, zgR_k hb.1 rb.1 (by omega), Option.bind_some, zgR_k ha.1 ra.1 (by omega), Option.bind_some, zcp0 5 hb.2.1 ha.2.1 (show (5 : Int) = ((5 : Nat) : Int) from rfl) (by omega) (by omega), Option.bind_some, zgR_k hb.1 rb.2.1 (by omega), Option.bind_some, zgR_k ha.1 ra.2.1 (by omega), Option.bind_some, Option.bind_some, zlen_k ha.2.2.1 (by decide), Option.bind_some, zcp0 10 hb.2.2.1 ha.2.2.1 rfl (by omega) (by omega), Option.bind_some, zgR_k hb.1 rb.2.2 (by omega), Option.bind_some, zgR_k ha.1 ra.2.2 (by omega), Option.bind_some, Option.bind_some, zlen_k ha.2.2.2 (by decide), Option.bind_some, zcp0 240 hb.2.2.2 ha.2.2.2 rfl (by omega) (by omega), Option.bind_some]
  · intro c j hc
    rw [cpU_ne (by omega), cpU_ne (by omega), cpU_ne (by omega), z_up_ne (by omega)]
  · rw [cpU_ne (by omega), cpU_ne (by omega), cpU_ne (by omega), z_up_eq]
  · intro j hj
    rw [cpU_ne (by omega), cpU_ne (by omega), cpU_lt hj, z_up_ne (by omega)]
  · intro j hj
    rw [cpU_ne (by omega), cpU_lt hj, cpU_ne (by omega), z_up_ne (by omega)]
  · intro j hj
    rw [cpU_lt hj, cpU_ne (by omega), cpU_ne (by omega), z_up_ne (by omega)]
section Cpm
variable {L : Nat} {ρ : Nat → Nat → Nat} {x y : Nat}
theorem m_cp78 (rm : Rm ρ) (hx : x < 8) (hy : y < 8) (hxy : x ≠ y) {j : Nat} (hj : j < 10) (K : Nat → Int → Int → Int → zH → Option zH) : ∀ (m N c : Nat) (ν : Nat → Nat → Int), c + m = 24 → m < N → ∃ ν', f_Mo_copyState_78 K N 233 (x : Int) (y : Int) (j : Int) (c : Int) (SH L, ρ, ν) = K 233 (x : Int) (y : Int) ((j + 1 : Nat) : Int) (SH L, ρ, ν') ∧ (∀ a i, a ≠ 266 → ν' a i = ν a i) ∧ (∀ i, ¬ (240 * y + 24 * j + c ≤ i ∧ i < 240 * y + 24 * j + 24) → ν' 266 i = ν 266 i) ∧ ∀ i, c ≤ i → i < 24 → ν' 266 (240 * y + 24 * j + i) = ν 266 (240 * x + 24 * j + i) := by
  intro m
  induction m with
  | zero =>
    intro N c ν hc hN
    obtain ⟨N, rfl⟩ : ∃ k, N = k + 1 := ⟨N - 1, by omega⟩
    refine ⟨ν, ?_, fun _ _ _ => rfl, fun _ _ => rfl, fun i h1 h2 => by omega⟩
    rw [f_Mo_copyState_78]
    show (if _ then _ else _) = _
    rw [if_pos (by omega), zw_of (by omega) (by omega), show ((j + 1 : Nat) : Int) = (j : Int) + 1 by omega]
  | succ m ih =>
    intro N c ν hc hN
    obtain ⟨N, rfl⟩ : ∃ k, N = k + 1 := ⟨N - 1, by omega⟩
    obtain ⟨ν', e1, e2, e3, e4⟩ := ih N (c + 1) (z_up ν 266 (240 * y + 24 * j + c) (ν 266 (240 * x + 24 * j + c))) (by omega) (by omega)
    refine ⟨ν', ?_, fun a i h => (e2 a i h).trans (z_up_ne h), fun i h => (e3 i (by omega)).trans (z_up_nj (by omega)), fun i h1 h2 => ?_⟩
    · rw [f_Mo_copyState_78]
      show (if _ then _ else _) = _
      have t1 : (240 * (x : Int) + 24 * (j : Int) + (c : Int)).toNat = 240 * x + 24 * j + c := by omega
      have t2 : (240 * (y : Int) + 24 * (j : Int) + (c : Int)).toNat = 240 * y + 24 * j + c := by omega
      rw [if_neg (by omega)]
      simp (disch := omega) only [zgR_k s_233 (m_42 rm) (by decide), Option.bind_some, zw_of, zaI_k s_266, zsI_k s_266, t1, t2]
      rw [show ((c + 1 : Nat) : Int) = (c : Int) + 1 by omega] at e1
      exact e1
    · by_cases hi : i = c
      · subst hi
        rw [e3 _ (by omega), z_up_eq]
      · rw [e4 i (by omega) h2, z_up_nj (by omega)]
theorem m_cp47 (rm : Rm ρ) (hx : x < 8) (hy : y < 8) (hxy : x ≠ y) : ∀ (m N j : Nat) (ν : Nat → Nat → Int), j + m = 10 → m < N → ∃ ν', f_Mo_copyState_47 N 233 (x : Int) (y : Int) (j : Int) (SH L, ρ, ν) = some (SH L, ρ, ν') ∧ (∀ a i, a ≠ 265 → a ≠ 266 → ν' a i = ν a i) ∧ (∀ i, ¬ (10 * y + j ≤ i ∧ i < 10 * y + 10) → ν' 265 i = ν 265 i) ∧ (∀ i, j ≤ i → i < 10 → ν' 265 (10 * y + i) = ν 265 (10 * x + i)) ∧ (∀ i, ¬ (240 * y + 24 * j ≤ i ∧ i < 240 * y + 240) → ν' 266 i = ν 266 i) ∧ ∀ i, 24 * j ≤ i → i < 240 → ν' 266 (240 * y + i) = ν 266 (240 * x + i) := by
  intro m
  induction m with
  | zero =>
    intro N j ν hj hN
    obtain ⟨N, rfl⟩ : ∃ k, N = k + 1 := ⟨N - 1, by omega⟩
    refine ⟨ν, ?_, fun _ _ _ _ => rfl, fun _ _ => rfl, fun i h1 h2 => by omega, fun _ _ => rfl, fun i h1 h2 => by omega⟩
    rw [f_Mo_copyState_47]
    show (if _ then _ else _) = _
    rw [if_pos (by omega)]
  | succ m ih =>
    intro N j ν hj hN
    obtain ⟨N, rfl⟩ : ∃ k, N = k + 1 := ⟨N - 1, by omega⟩
    obtain ⟨ν1, f1, f2, f3, f4⟩ := m_cp78 (L := L) rm hx hy hxy (j := j) (by omega) (f_Mo_copyState_47 N) 24 100000 0 (z_up ν 265 (10 * y + j) (ν 265 (10 * x + j))) (by omega) (by omega)
    obtain ⟨ν', e1, e2, e3, e4, e5, e6⟩ := ih N (j + 1) ν1 (by omega) (by omega)
    refine ⟨ν', ?_, fun a i h1 h2 => ((e2 a i h1 h2).trans (f2 a i h2)).trans (z_up_ne h1), fun i h => ((e3 i (by omega)).trans (f2 265 i (by decide))).trans (z_up_nj (by omega)), fun i h1 h2 => ?_, fun i h => ((e5 i (by omega)).trans (f3 i (by omega))).trans (z_up_ne (by decide)), fun i h1 h2 => ?_⟩
    · rw [f_Mo_copyState_47]
      show (if _ then _ else _) = _
      have t1 : (10 * (x : Int) + (j : Int)).toNat = 10 * x + j := by omega
      have t2 : (10 * (y : Int) + (j : Int)).toNat = 10 * y + j := by omega
      rw [if_neg (by omega)]
      simp (disch := omega) only [zgR_k s_233 (m_41 rm) (by decide), Option.bind_some, zw_of, zaI_k s_265, zsI_k s_265, t1, t2]
      exact f1.trans e1
    · by_cases hi : i = j
      · subst hi
        rw [e3 _ (by omega), f2 265 _ (by decide), z_up_eq]
      · rw [e4 i (by omega) h2, f2 265 _ (by decide), z_up_nj (by omega)]
    · by_cases hi : i < 24 * (j + 1)
      · obtain ⟨u, rfl⟩ : ∃ u, i = 24 * j + u := ⟨i - 24 * j, by omega⟩
        rw [e5 _ (by omega), ← Nat.add_assoc, ← Nat.add_assoc, f4 u (by omega) (by omega), z_up_ne (by decide)]
      · rw [e6 i (by omega) h2, f3 _ (by omega), z_up_ne (by decide)]
theorem m_cp14 (rm : Rm ρ) (hx : x < 8) (hy : y < 8) (hxy : x ≠ y) : ∀ (m N d : Nat) (ν : Nat → Nat → Int), d + m = 5 → m < N → ∃ ν', f_Mo_copyState_14 N 233 (x : Int) (y : Int) (d : Int) (SH L, ρ, ν) = some (SH L, ρ, ν') ∧ (∀ a i, a ≠ 264 → a ≠ 265 → a ≠ 266 → ν' a i = ν a i) ∧ (∀ i, ¬ (5 * y + d ≤ i ∧ i < 5 * y + 5) → ν' 264 i = ν 264 i) ∧ (∀ i, d ≤ i → i < 5 → ν' 264 (5 * y + i) = ν 264 (5 * x + i)) ∧ (∀ i, ¬ (10 * y ≤ i ∧ i < 10 * y + 10) → ν' 265 i = ν 265 i) ∧ (∀ i, i < 10 → ν' 265 (10 * y + i) = ν 265 (10 * x + i)) ∧ (∀ i, ¬ (240 * y ≤ i ∧ i < 240 * y + 240) → ν' 266 i = ν 266 i) ∧ ∀ i, i < 240 → ν' 266 (240 * y + i) = ν 266 (240 * x + i) := by
  intro m
  induction m with
  | zero =>
    intro N d ν hd hN
    obtain ⟨N, rfl⟩ : ∃ k, N = k + 1 := ⟨N - 1, by omega⟩
    obtain ⟨ν', e1, e2, e3, e4, e5, e6⟩ := m_cp47 (L := L) rm hx hy hxy 10 100000 0 ν (by omega) (by omega)
    refine ⟨ν', ?_, fun a i _ h1 h2 => e2 a i h1 h2, fun i _ => e2 _ i (by decide) (by decide), fun i h1 h2 => by omega, fun i h => e3 i (by omega), fun i h => e4 i (by omega) h, fun i h => e5 i (by omega), fun i h => e6 i (by omega) h⟩
    rw [f_Mo_copyState_14]
    show (if _ then _ else _) = _
    rw [if_pos (by omega)]
    exact e1
  | succ m ih =>
    intro N d ν hd hN
    obtain ⟨N, rfl⟩ : ∃ k, N = k + 1 := ⟨N - 1, by omega⟩
    obtain ⟨ν', e1, e2, e3, e4, e5, e6, e7, e8⟩ := ih N (d + 1) (z_up ν 264 (5 * y + d) (ν 264 (5 * x + d))) (by omega) (by omega)
    refine ⟨ν', ?_, fun a i h1 h2 h3 => (e2 a i h1 h2 h3).trans (z_up_ne h1), fun i h => (e3 i (by omega)).trans (z_up_nj (by omega)), fun i h1 h2 => ?_, fun i h => (e5 i h).trans (z_up_ne (by decide)), fun i h => (e6 i h).trans (z_up_ne (by decide)), fun i h => (e7 i h).trans (z_up_ne (by decide)), fun i h => (e8 i h).trans (z_up_ne (by decide))⟩
    · rw [f_Mo_copyState_14]
      show (if _ then _ else _) = _
      have t1 : (5 * (x : Int) + (d : Int)).toNat = 5 * x + d := by omega
      have t2 : (5 * (y : Int) + (d : Int)).toNat = 5 * y + d := by omega
      rw [if_neg (by omega)]
      simp (disch := omega) only [zgR_k s_233 (m_40 rm) (by decide), Option.bind_some, zw_of, zaI_k s_264, zsI_k s_264, t1, t2]
      rw [show ((d + 1 : Nat) : Int) = (d : Int) + 1 by omega] at e1
      exact e1
    · by_cases hi : i = d
      · subst hi
        rw [e3 _ (by omega), z_up_eq]
      · rw [e4 i (by omega) h2, z_up_nj (by omega)]
/-- copyState(x, y) -/
def CpM (x y : Nat) (ν ν' : Nat → Nat → Int) : Prop := (∀ a i, a < 263 ∨ 266 < a → ν' a i = ν a i) ∧ (∀ i, i ≠ y → ν' 263 i = ν 263 i) ∧ ν' 263 y = ν 263 x ∧ (∀ i, ¬ (5 * y ≤ i ∧ i < 5 * y + 5) → ν' 264 i = ν 264 i) ∧ (∀ i, i < 5 → ν' 264 (5 * y + i) = ν 264 (5 * x + i)) ∧ (∀ i, ¬ (10 * y ≤ i ∧ i < 10 * y + 10) → ν' 265 i = ν 265 i) ∧ (∀ i, i < 10 → ν' 265 (10 * y + i) = ν 265 (10 * x + i)) ∧ (∀ i, ¬ (240 * y ≤ i ∧ i < 240 * y + 240) → ν' 266 i = ν 266 i) ∧ ∀ i, i < 240 → ν' 266 (240 * y + i) = ν 266 (240 * x + i)
theorem e_copyM (rm : Rm ρ) (hx : x < 8) (hy : y < 8) (hxy : x ≠ y) (ν : Nat → Nat → Int) : ∃ ν', f_Mo_copyState 233 (x : Int) (y : Int) (SH L, ρ, ν) = some (SH L, ρ, ν') ∧ CpM x y ν ν' := by
  obtain ⟨ν', e1, e2, e3, e4, e5, e6, e7, e8⟩ := m_cp14 (L := L) rm hx hy hxy 5 100000 0 (z_up ν 263 y (ν 263 x)) (by omega) (by omega)
  refine ⟨ν', ?_, fun a i h => (e2 a i (by omega) (by omega) (by omega)).trans (z_up_ne (by omega)), fun i h => (e2 263 i (by decide) (by decide) (by decide)).trans (z_up_nj h), (e2 263 y (by decide) (by decide) (by decide)).trans z_up_eq, fun i h => (e3 i (by omega)).trans (z_up_ne (by decide)), fun i h => (e4 i (by omega) h).trans (z_up_ne (by decide)), fun i h => (e5 i h).trans (z_up_ne (by decide)), fun i h => (e6 i h).trans (z_up_ne (by decide)), fun i h => (e7 i h).trans (z_up_ne (by decide)), fun i h => (e8 i h).trans (z_up_ne (by decide))⟩
  unfold f_Mo_copyState
  simp (disch := omega) only [zgR_k s_233 (m_39 rm) (by decide), Option.bind_some, zaI_k s_263, zsI_k s_263, Int.toNat_natCast]
  exact e1
end Cpm
/-- a state and its copy -/
theorem RSt.cp {μ ν μ' ν' : Nat → Nat → Int} {s x s' y : Nat} (h : RSt μ ν s x) (c0 : μ' s' 0 = μ s 0) (c1 : ∀ j, j < 5 → μ' (s' + 1) j = μ (s + 1) j) (c2 : ∀ j, j < 10 → μ' (s' + 2) j = μ (s + 2) j) (c3 : ∀ j, j < 240 → μ' (s' + 3) j = μ (s + 3) j) (h24 : μ' 24 1 = μ 24 1) (hr : ∀ r : Nat, (r : Int) ≤ μ 24 1 → μ' (36 + 13 * r) 2 = μ (36 + 13 * r) 2) (hm : CpM x y ν ν') : RSt μ' ν' s' y := by
  obtain ⟨a, b, c, d, e⟩ := h
  obtain ⟨-, -, m3, -, m5, -, m7, -, m9⟩ := hm
  unfold RSt
  rw [c0, m3, h24]
  refine ⟨a, b, c, fun l hl => ?_, fun j hj => ?_⟩
  · obtain ⟨d1, d2, d3, d4⟩ := d l hl
    rw [m5 l (by omega), c1 l (by omega), hr _ (by omega)]
    exact ⟨d1, d2, d3, d4⟩
  · obtain ⟨e1, e3, e4⟩ := e j hj
    rw [m7 j (by omega), c2 j (by omega)]
    refine ⟨e1, e3, fun q hq => ?_⟩
    rw [Nat.add_assoc, m9 (24 * j + q) (by omega), c3 _ (by omega), ← Nat.add_assoc]
    exact e4 q hq
