/-! drop -/
theorem Rc.d {ρ ρ' : Nat → Nat → Nat} (h : Rc ρ) (e : ∀ c j, c ≠ 11 → ρ' c j = ρ c j) : Rc ρ' := by
  unfold Rc r24 ruR ptR lnR stR at *
  simp (disch := omega) only [e]
  exact h
theorem Rm.d {ρ ρ' : Nat → Nat → Nat} (h : Rm ρ) (e : ∀ c j, c ≠ 11 → ρ' c j = ρ c j) : Rm ρ' := by
  unfold Rm at *
  simp (disch := omega) only [e]
  exact h
/-- one line of the model comes to stand one place ahead -/
def DrM (j : Nat) (ν ν' : Nat → Nat → Int) : Prop := (∀ a i, a < 256 ∨ 266 < a → ν' a i = ν a i) ∧ (∀ a i, a = 256 ∨ a = 258 ∨ a = 259 ∨ a = 263 → i ≠ j → ν' a i = ν a i) ∧ (∀ a, a = 256 ∨ a = 258 ∨ a = 259 ∨ a = 263 → ν' a j = ν a (j + 1)) ∧ (∀ a i, a = 257 ∨ a = 260 ∨ a = 261 → ¬ (24 * j ≤ i ∧ i < 24 * j + 24) → ν' a i = ν a i) ∧ (∀ a i, a = 257 ∨ a = 260 ∨ a = 261 → 24 * j ≤ i → i < 24 * j + 24 → ν' a i = ν a (i + 24)) ∧ (∀ i, ¬ (144 * j ≤ i ∧ i < 144 * j + 144) → ν' 262 i = ν 262 i) ∧ (∀ i, 144 * j ≤ i → i < 144 * j + 144 → ν' 262 i = ν 262 (i + 144)) ∧ CpM (j + 1) j ν (fun a i => if 263 ≤ a ∧ a ≤ 266 then ν' a i else ν a i)
section Drp
variable {L : Nat} {ρ : Nat → Nat → Nat} {j : Nat} {k : Int}
theorem m_dr81 (rm : Rm ρ) (hj : j < 5) (K : Nat → Int → Int → zH → Option (Int × zH)) : ∀ (m N c : Nat) (ν : Nat → Nat → Int), c + m = 24 * j + 24 → 24 * j ≤ c → m < N → ∃ ν', f_Mo_drop_81 K N 233 k (j : Int) (c : Int) (SH L, ρ, ν) = f_Mo_drop_149 K 100000 233 k (j : Int) ((144 * j : Nat) : Int) (SH L, ρ, ν') ∧ (∀ a i, ¬ (a = 257 ∨ a = 260 ∨ a = 261) → ν' a i = ν a i) ∧ (∀ a i, a = 257 ∨ a = 260 ∨ a = 261 → ¬ (c ≤ i ∧ i < 24 * j + 24) → ν' a i = ν a i) ∧ ∀ a i, a = 257 ∨ a = 260 ∨ a = 261 → c ≤ i → i < 24 * j + 24 → ν' a i = ν a (i + 24) := by
  intro m
  induction m with
  | zero =>
    intro N c ν hc hcj hN
    obtain ⟨N, rfl⟩ : ∃ k, N = k + 1 := ⟨N - 1, by omega⟩
    refine ⟨ν, ?_, fun _ _ _ => rfl, fun _ _ _ _ => rfl, fun a i _ g1 g2 => by omega⟩
    rw [f_Mo_drop_81]
    show (if _ then _ else _) = _
    rw [zw_of (x := 24 * (j : Int)) (by omega) (by omega), zw_of (x := 24 * (j : Int) + 24) (by omega) (by omega), if_pos (by omega), zw_of (by omega) (by omega), show ((144 * j : Nat) : Int) = 144 * (j : Int) by omega]
  | succ m ih =>
    intro N c ν hc hcj hN
    obtain ⟨N, rfl⟩ : ∃ k, N = k + 1 := ⟨N - 1, by omega⟩
    have up : ∀ a i, ¬ (a = 257 ∨ a = 260 ∨ a = 261) ∨ i ≠ c → z_up (z_up (z_up ν 257 c (ν 257 (c + 24))) 260 c (ν 260 (c + 24))) 261 c (ν 261 (c + 24)) a i = ν a i := by
      intro a i h
      rw [z_up, if_neg (by omega), z_up, if_neg (by omega), z_up, if_neg (by omega)]
    have upc : ∀ a, a = 257 ∨ a = 260 ∨ a = 261 → z_up (z_up (z_up ν 257 c (ν 257 (c + 24))) 260 c (ν 260 (c + 24))) 261 c (ν 261 (c + 24)) a c = ν a (c + 24) := by
      intro a h
      obtain rfl | rfl | rfl := h
      · rw [z_up_ne (by decide), z_up_ne (by decide), z_up_eq]
      · rw [z_up_ne (by decide), z_up_eq]
      · rw [z_up_eq]
    obtain ⟨ν', e1, e2, e3, e4⟩ := ih N (c + 1) (z_up (z_up (z_up ν 257 c (ν 257 (c + 24))) 260 c (ν 260 (c + 24))) 261 c (ν 261 (c + 24))) (by omega) (by omega) (by omega)
    refine ⟨ν', ?_, fun a i h => (e2 a i h).trans (up a i (Or.inl h)), fun a i h1 h2 => (e3 a i h1 (by omega)).trans (up a i (Or.inr (by omega))), fun a i h1 h2 h3 => ?_⟩
    · have t1 : ((c : Int) + 24).toNat = c + 24 := by omega
      rw [f_Mo_drop_81]
      show (if _ then _ else _) = _
      rw [zw_of (x := 24 * (j : Int)) (by omega) (by omega), zw_of (x := 24 * (j : Int) + 24) (by omega) (by omega), if_neg (by omega)]
      simp (disch := omega) only [zgR_k s_233 (m_33 rm) (by decide), zgR_k s_233 (m_36 rm) (by decide), zgR_k s_233 (m_37 rm) (by decide), Option.bind_some, zw_of, zaI_k s_257, zsI_k s_257, zaI_k s_260, zsI_k s_260, zaI_k s_261, zsI_k s_261, t1, Int.toNat_natCast, z_up_ne]
      rw [show ((c + 1 : Nat) : Int) = (c : Int) + 1 by omega] at e1
      exact e1
    · by_cases hi : i = c
      · subst hi
        rw [e3 a _ h1 (by omega), upc a h1]
      · rw [e4 a i h1 (by omega) h3, up _ _ (Or.inr (by omega))]
theorem m_dr149 (rm : Rm ρ) (hj : j < 5) (K : Nat → Int → Int → zH → Option (Int × zH)) : ∀ (m N c : Nat) (ν : Nat → Nat → Int), c + m = 144 * j + 144 → 144 * j ≤ c → m < N → ∃ ν', f_Mo_drop_149 K N 233 k (j : Int) (c : Int) (SH L, ρ, ν) = (f_Mo_copyState 233 ((j + 1 : Nat) : Int) (j : Int) (SH L, ρ, ν')).bind (fun h2 => K 233 k ((j + 1 : Nat) : Int) h2) ∧ (∀ a i, a ≠ 262 → ν' a i = ν a i) ∧ (∀ i, ¬ (c ≤ i ∧ i < 144 * j + 144) → ν' 262 i = ν 262 i) ∧ ∀ i, c ≤ i → i < 144 * j + 144 → ν' 262 i = ν 262 (i + 144) := by
  intro m
  induction m with
  | zero =>
    intro N c ν hc hcj hN
    obtain ⟨N, rfl⟩ : ∃ k, N = k + 1 := ⟨N - 1, by omega⟩
    refine ⟨ν, ?_, fun _ _ _ => rfl, fun _ _ => rfl, fun i g1 g2 => by omega⟩
    rw [f_Mo_drop_149]
    show (if _ then _ else _) = _
    rw [zw_of (x := 144 * (j : Int)) (by omega) (by omega), zw_of (x := 144 * (j : Int) + 144) (by omega) (by omega), if_pos (by omega), zck_k s_233, Option.bind_some, zw_of (by omega) (by omega), show ((j + 1 : Nat) : Int) = (j : Int) + 1 by omega]
  | succ m ih =>
    intro N c ν hc hcj hN
    obtain ⟨N, rfl⟩ : ∃ k, N = k + 1 := ⟨N - 1, by omega⟩
    obtain ⟨ν', e1, e2, e3, e4⟩ := ih N (c + 1) (z_up ν 262 c (ν 262 (c + 144))) (by omega) (by omega) (by omega)
    refine ⟨ν', ?_, fun a i h => (e2 a i h).trans (z_up_ne h), fun i h2 => (e3 i (by omega)).trans (z_up_nj (by omega)), fun i h2 h3 => ?_⟩
    · have t1 : ((c : Int) + 144).toNat = c + 144 := by omega
      rw [f_Mo_drop_149]
      show (if _ then _ else _) = _
      rw [zw_of (x := 144 * (j : Int)) (by omega) (by omega), zw_of (x := 144 * (j : Int) + 144) (by omega) (by omega), if_neg (by omega)]
      simp (disch := omega) only [zgR_k s_233 (m_38 rm) (by decide), Option.bind_some, zw_of, zaI_k s_262, zsI_k s_262, t1, Int.toNat_natCast]
      rw [show ((c + 1 : Nat) : Int) = (c : Int) + 1 by omega] at e1
      exact e1
    · by_cases hi : i = c
      · subst hi
        rw [e3 _ (by omega), z_up_eq]
      · rw [e4 i (by omega) h3, z_up_nj (by omega)]
theorem m_dr26 (rm : Rm ρ) (hj : j < 5) {ν : Nat → Nat → Int} {n : Int} (h30 : ν 233 30 = n) (hn : (j : Int) < n) (h258 : ν 258 (j + 1) = 0 ∨ ν 258 (j + 1) = 1) (N : Nat) : ∃ ν', f_Mo_drop_26 (N + 1) 233 k (j : Int) (SH L, ρ, ν) = f_Mo_drop_26 N 233 k ((j + 1 : Nat) : Int) (SH L, ρ, ν') ∧ DrM j ν ν' := by
  have up : ∀ a i, ¬ (a = 256 ∨ a = 258 ∨ a = 259) ∨ i ≠ j → z_up (z_up (z_up ν 256 j (ν 256 (j + 1))) 258 j (ν 258 (j + 1))) 259 j (ν 259 (j + 1)) a i = ν a i := by
    intro a i h
    rw [z_up, if_neg (by omega), z_up, if_neg (by omega), z_up, if_neg (by omega)]
  have upc : ∀ a, a = 256 ∨ a = 258 ∨ a = 259 → z_up (z_up (z_up ν 256 j (ν 256 (j + 1))) 258 j (ν 258 (j + 1))) 259 j (ν 259 (j + 1)) a j = ν a (j + 1) := by
    intro a h
    obtain rfl | rfl | rfl := h
    · rw [z_up_ne (by decide), z_up_ne (by decide), z_up_eq]
    · rw [z_up_ne (by decide), z_up_eq]
    · rw [z_up_eq]
  obtain ⟨ν1, a1, a2, a3, a4⟩ := m_dr81 (L := L) (k := k) rm hj (f_Mo_drop_26 N) 24 100000 (24 * j) (z_up (z_up (z_up ν 256 j (ν 256 (j + 1))) 258 j (ν 258 (j + 1))) 259 j (ν 259 (j + 1))) (by omega) (by omega) (by omega)
  obtain ⟨ν2, b1, b2, b3, b4⟩ := m_dr149 (L := L) (k := k) rm hj (f_Mo_drop_26 N) 144 100000 (144 * j) ν1 (by omega) (by omega) (by omega)
  obtain ⟨ν3, c1, c2⟩ := e_copyM (L := L) rm (x := j + 1) (y := j) (by omega) (by omega) (by omega) ν2
  have f2 : ∀ a i, ¬ (a = 256 ∨ a = 258 ∨ a = 259) ∨ i ≠ j → ¬ (a = 257 ∨ a = 260 ∨ a = 261) → a ≠ 262 → ν2 a i = ν a i := fun a i g1 g2 g3 => (b2 a i g3).trans ((a2 a i g2).trans (up a i g1))
  obtain ⟨d1, d2, d3, d4, d5, d6, d7, d8, d9⟩ := id c2
  refine ⟨ν3, ?_, fun a i g => (d1 a i (by omega)).trans (f2 a i (by omega) (by omega) (by omega)), fun a i g1 g2 => ?_, fun a g1 => ?_, fun a i g1 g2 => (d1 a i (by omega)).trans ((b2 a i (by omega)).trans ((a3 a i g1 g2).trans (up a i (by omega)))), fun a i g1 g2 g3 => (d1 a i (by omega)).trans ((b2 a i (by omega)).trans ((a4 a i g1 g2 g3).trans (up _ _ (by omega)))), fun i g => (d1 _ i (by omega)).trans ((b3 i g).trans ((a2 _ i (by omega)).trans (up _ i (by omega)))), fun i g1 g2 => (d1 _ i (by omega)).trans ((b4 i g1 g2).trans ((a2 _ _ (by omega)).trans (up _ _ (by omega)))), ?_⟩
  · have t1 : ((j : Int) + 1).toNat = j + 1 := by omega
    have m2 : ν 258 (j + 1) % 2 = ν 258 (j + 1) := by
      obtain h | h := h258
      · rw [h]; rfl
      · rw [h]; rfl
    have e0 : f_Mo_drop_26 (N + 1) 233 k (j : Int) (SH L, ρ, ν) = f_Mo_drop_81 (f_Mo_drop_26 N) 100000 233 k (j : Int) ((24 * j : Nat) : Int) (SH L, ρ, z_up (z_up (z_up ν 256 j (ν 256 (j + 1))) 258 j (ν 258 (j + 1))) 259 j (ν 259 (j + 1))) := by
      rw [f_Mo_drop_26]
      show (z_gI _ _ _ _).bind _ = _
      rw [zgI_k s_233, Option.bind_some, h30, if_neg (by omega), zgR_k s_233 (m_32 rm) (by decide), Option.bind_some, Option.bind_some, zw_of (x := (j : Int) + 1) (by omega) (by omega), zaI_k s_256 (by omega) (by omega), Option.bind_some, zsI_k s_256 (by omega) (by omega), Option.bind_some, t1, Int.toNat_natCast, zgR_k s_233 (m_34 rm) (by decide), Option.bind_some, Option.bind_some, zaI_k s_258 (by omega) (by omega), Option.bind_some, t1, z_up_ne (by decide), m2, zsI_k s_258 (by omega) (by omega), Option.bind_some, Int.toNat_natCast, zgR_k s_233 (m_35 rm) (by decide), Option.bind_some, Option.bind_some, zaI_k s_259 (by omega) (by omega), Option.bind_some, t1, z_up_ne (by decide), z_up_ne (by decide), zsI_k s_259 (by omega) (by omega), Option.bind_some, Int.toNat_natCast, zw_of (by omega) (by omega), show ((24 * j : Nat) : Int) = 24 * (j : Int) by omega]
    rw [e0, a1, b1, c1, Option.bind_some]
  · by_cases h : a = 263
    · subst h
      exact (d2 i g2).trans (f2 _ _ (by omega) (by omega) (by omega))
    · exact (d1 a i (by omega)).trans (f2 a i (by omega) (by omega) (by omega))
  · by_cases h : a = 263
    · subst h
      exact d3.trans (f2 _ _ (by omega) (by omega) (by omega))
    · exact (d1 a j (by omega)).trans ((b2 a j (by omega)).trans ((a2 a j (by omega)).trans (upc a (by omega))))
  · have q : ∀ a i, 263 ≤ a ∧ a ≤ 266 → (fun a i => if 263 ≤ a ∧ a ≤ 266 then ν3 a i else ν a i) a i = ν3 a i := fun a i h => if_pos h
    have q' : ∀ a i, ¬ (263 ≤ a ∧ a ≤ 266) → (fun a i => if 263 ≤ a ∧ a ≤ 266 then ν3 a i else ν a i) a i = ν a i := fun a i h => if_neg h
    have k2 : ∀ a i, 263 ≤ a → ν2 a i = ν a i := fun a i g => f2 a i (by omega) (by omega) (by omega)
    exact ⟨fun a i g => q' a i (by omega), fun i g => (q _ _ (by omega)).trans ((d2 i g).trans (k2 _ _ (by omega))), (q _ _ (by omega)).trans (d3.trans (k2 _ _ (by omega))), fun i g => (q _ _ (by omega)).trans ((d4 i g).trans (k2 _ _ (by omega))), fun i g => (q _ _ (by omega)).trans ((d5 i g).trans (k2 _ _ (by omega))), fun i g => (q _ _ (by omega)).trans ((d6 i g).trans (k2 _ _ (by omega))), fun i g => (q _ _ (by omega)).trans ((d7 i g).trans (k2 _ _ (by omega))), fun i g => (q _ _ (by omega)).trans ((d8 i g).trans (k2 _ _ (by omega))), fun i g => (q _ _ (by omega)).trans ((d9 i g).trans (k2 _ _ (by omega)))⟩
end Drp
theorem RSt.nu {μ ν ν' : Nat → Nat → Int} {s x : Nat} (h : RSt μ ν s x) (g : ∀ c j, 263 ≤ c → c ≤ 266 → ν' c j = ν c j) : RSt μ ν' s x := h.fr (fun _ _ _ _ => rfl) rfl (fun _ _ => rfl) (g _ _ (by omega) (by omega)) (fun j _ _ => g _ _ (by omega) (by omega)) (fun j _ _ => g _ _ (by omega) (by omega)) (fun j _ _ => g _ _ (by omega) (by omega))
theorem RLn.sh {μ ν ν' : Nat → Nat → Int} {l j : Nat} (h : RLn μ ν l (j + 1)) (g : DrM j ν ν') : RLn μ ν' l j := by
  obtain ⟨⟨a1, a2, a3, a4⟩, ⟨b1, b2⟩, ⟨c1, c2, c3, c4⟩, d⟩ := h
  obtain ⟨-, -, g3, -, g5, -, g7, g8⟩ := g
  unfold RLn
  rw [g3 256 (by omega), g3 258 (by omega), g3 259 (by omega)]
  refine ⟨⟨a1, a2, a3, fun c hc => ?_⟩, ⟨b1, b2⟩, ⟨c1, c2, c3, fun t ht => ?_⟩, ?_⟩
  · rw [g5 257 _ (by omega) (by omega) (by omega), show 24 * j + c + 24 = 24 * (j + 1) + c by omega]
    exact a4 c hc
  · obtain ⟨e1, e2, e3, e4, e5⟩ := c4 t ht
    rw [g5 260 _ (by omega) (by omega) (by omega), g5 261 _ (by omega) (by omega) (by omega), show 24 * j + t + 24 = 24 * (j + 1) + t by omega]
    refine ⟨e1, e2, e3, e4, fun i hi => ?_⟩
    rw [g7 _ (by omega) (by omega), show 6 * (24 * j + t) + i + 144 = 6 * (24 * (j + 1) + t) + i by omega]
    exact e5 i hi
  · have := d.cp (μ' := μ) (s' := l + 5) rfl (fun _ _ => rfl) (fun _ _ => rfl) (fun _ _ => rfl) rfl (fun _ _ => rfl) g8
    exact this.nu fun c j g1 g2 => (if_pos ⟨g1, g2⟩ : (if 263 ≤ c ∧ c ≤ 266 then ν' c j else ν c j) = ν' c j).symm
theorem RLn.dk {μ ν ν' : Nat → Nat → Int} {l i j : Nat} (h : RLn μ ν l i) (hij : i ≠ j) (g : DrM j ν ν') : RLn μ ν' l i := by
  obtain ⟨-, g2, -, g4, -, g6, -, ⟨-, -, -, k4, -, k6, -, k8, -⟩⟩ := g
  have k : ∀ a b, 263 ≤ a → a ≤ 266 → (if 263 ≤ a ∧ a ≤ 266 then ν' a b else ν a b) = ν' a b := fun a b q1 q2 => if_pos ⟨q1, q2⟩
  exact h.fr (fun _ _ _ _ => rfl) rfl (fun _ _ => rfl) (fun c hc => g2 c i (by omega) hij) (fun c b hc q1 q2 => g4 c b (by omega) (by omega)) (fun b q1 q2 => g6 b (by omega)) (fun b q1 q2 => (k _ _ (by omega) (by omega)).symm.trans (k4 b (by omega))) (fun b q1 q2 => (k _ _ (by omega) (by omega)).symm.trans (k6 b (by omega))) (fun b q1 q2 => (k _ _ (by omega) (by omega)).symm.trans (k8 b (by omega)))
section Dr2
variable {L : Nat}
/-- the model's loop -/
theorem m_drL {ρ : Nat → Nat → Nat} (rm : Rm ρ) {μ : Nat → Nat → Int} {k n : Nat} (hn : n ≤ 5) (P : Nat → Nat) : ∀ (m N j : Nat) (ν : Nat → Nat → Int), j + m = n → m < N → ν 233 30 = n → (∀ i, i < j → RLn μ ν (P i) i) → (∀ i, j ≤ i → i < n → RLn μ ν (P i) (i + 1)) → ∃ ν', f_Mo_drop_26 N 233 (k : Int) (j : Int) (SH L, ρ, ν) = (f_Mo_refresh 233 (k : Int) (SH L, ρ, ν')).bind (fun q23 => some (q23.1, q23.2)) ∧ (∀ a i, a < 256 ∨ 266 < a → ν' a i = ν a i) ∧ ∀ i, i < n → RLn μ ν' (P i) i := by
  intro m
  induction m with
  | zero =>
    intro N j ν h1 h2 h3 h4 h5
    obtain ⟨N, rfl⟩ : ∃ k, N = k + 1 := ⟨N - 1, by omega⟩
    refine ⟨ν, ?_, fun _ _ _ => rfl, fun i hi => h4 i (by omega)⟩
    rw [f_Mo_drop_26]
    show (z_gI _ _ _ _).bind _ = _
    rw [zgI_k s_233, Option.bind_some, h3, if_pos (by omega), zck_k s_233, Option.bind_some]
  | succ m ih =>
    intro N j ν h1 h2 h3 h4 h5
    obtain ⟨N, rfl⟩ : ∃ k, N = k + 1 := ⟨N - 1, by omega⟩
    have hj := h5 j (Nat.le_refl _) (by omega)
    obtain ⟨ν1, a1, a2⟩ := m_dr26 (L := L) (k := (k : Int)) rm (j := j) (by omega) h3 (by omega) (by
      have := hj.2.1
      omega) N
    obtain ⟨ν', b1, b2, b3⟩ := ih N (j + 1) ν1 (by omega) (by omega) ((a2.1 _ _ (by omega)).trans h3) (fun i hi => by
      by_cases e : i = j
      · rw [e]
        exact hj.sh a2
      · exact (h4 i (by omega)).dk e a2) (fun i g1 g2 => (h5 i (by omega) g2).dk (by omega) a2)
    exact ⟨ν', a1.trans b1, fun a i g => (b2 a i g).trans (a2.1 a i g), b3⟩
/-- the class's loop -/
theorem c_drL {μ : Nat → Nat → Int} {k n u : Nat} (hn : n ≤ 6) (hn1 : 1 ≤ n) (hu : u < 6) (h5 : μ 1 5 = n) : ∀ (m N i : Nat) (ρ : Nat → Nat → Nat), i + m = n → 1 ≤ i → m < N → ρ 1 4 = 11 → (∀ j, j < 6 → ∃ q, q < 6 ∧ ρ 11 j = 179 + 9 * q) → ∃ ρ', f_SL_drop_21 N 1 (k : Int) (179 + 9 * u) (i : Int) (SH L, ρ, μ) = (f_SL_tokenizeFrom 1 (k : Int) 0 (SH L, ρ', z_up μ 1 5 ((n - 1 : Nat) : Int))).bind (fun q8 => some (q8.1, q8.2)) ∧ (∀ c j, c ≠ 11 → ρ' c j = ρ c j) ∧ (∀ j, j + 1 < i → ρ' 11 j = ρ 11 j) ∧ (∀ j, i ≤ j + 1 → j + 1 < n → ρ' 11 j = ρ 11 (j + 1)) ∧ ρ' 11 (n - 1) = 179 + 9 * u ∧ ∀ j, n ≤ j → ρ' 11 j = ρ 11 j := by
  intro m
  induction m with
  | zero =>
    intro N i ρ h1 h2 h3 h4 h6
    obtain ⟨N, rfl⟩ : ∃ k, N = k + 1 := ⟨N - 1, by omega⟩
    refine ⟨z_up ρ 11 (n - 1) (179 + 9 * u), ?_, fun c j g => z_up_ne g, fun j g => z_up_nj (by omega), fun j g1 g2 => by omega, z_up_eq, fun j g => z_up_nj (by omega)⟩
    rw [f_SL_drop_21]
    show (z_gI _ _ _ _).bind _ = _
    rw [zgI_k s_1, Option.bind_some, h5, if_pos (by omega), Option.bind_some, zw_of (by omega) (by omega), zpI_k s_1, Option.bind_some, zgR_k s_1 h4 (by decide), Option.bind_some, zgI_k s_1, Option.bind_some, z_up_eq, zsR_k s_11 (sl_0 hu) (by omega) (by omega), Option.bind_some, zck_k s_1, Option.bind_some, show ((n : Int) - 1).toNat = n - 1 by omega, show ((n - 1 : Nat) : Int) = (n : Int) - 1 by omega]
  | succ m ih =>
    intro N i ρ h1 h2 h3 h4 h6
    obtain ⟨N, rfl⟩ : ∃ k, N = k + 1 := ⟨N - 1, by omega⟩
    obtain ⟨q, hq, eq⟩ := h6 i (by omega)
    obtain ⟨ρ', e1, e2, e3, e4, e5, e6⟩ := ih N (i + 1) (z_up ρ 11 (i - 1) (179 + 9 * q)) (by omega) (by omega) (by omega) ((z_up_ne (by decide)).trans h4) (fun j hj => by
      by_cases e : j = i - 1
      · rw [e, z_up_eq]
        exact ⟨q, hq, rfl⟩
      · rw [z_up_nj e]
        exact h6 j hj)
    refine ⟨ρ', ?_, fun c j g => (e2 c j g).trans (z_up_ne g), fun j g => (e3 j (by omega)).trans (z_up_nj (by omega)), fun j g1 g2 => ?_, e5, fun j g => (e6 j g).trans (z_up_nj (by omega))⟩
    · rw [f_SL_drop_21]
      show (z_gI _ _ _ _).bind _ = _
      rw [zgI_k s_1, Option.bind_some, h5, if_neg (by omega), zgR_k s_1 h4 (by decide), Option.bind_some, Option.bind_some, e_doc hq (by omega) (by omega) (by rw [Int.toNat_natCast]; exact eq), Option.bind_some, zw_of (x := (i : Int) - 1) (by omega) (by omega), zsR_k s_11 (sl_0 hq) (by omega) (by omega), Option.bind_some, show ((i : Int) - 1).toNat = i - 1 by omega, zw_of (by omega) (by omega)]
      rw [show ((i + 1 : Nat) : Int) = (i : Int) + 1 by omega] at e1
      exact e1
    · by_cases e : j = i - 1
      · rw [e, e3 _ (by omega), z_up_eq, show i - 1 + 1 = i by omega, eq]
      · rw [e4 j (by omega) g2, z_up_nj (by omega)]
theorem c_drop (k : Int) : CaseR L (f_SL_drop 1 k) (f_Mo_drop 233 k) := CaseR.two fun ρ μ ν rc rm dc hr => by
  obtain ⟨rd, rr, ⟨l0, l6, le, lp, hl⟩, rt, rb, rn, rp0, rp1⟩ := id hr
  have r9 := rr.2.1
  by_cases hk : ¬ (0 ≤ k ∧ k < μ 1 5)
  · refine ⟨-1, ρ, μ, ν, ?_, ?_, fun _ _ _ => rfl, fun _ _ _ => rfl, ⟨rc, rm, dc⟩, hr⟩
    · unfold f_SL_drop
      rw [zck_k s_1, Option.bind_some, e_isLineS, Option.bind_some]
      dsimp only
      rw [if_neg hk, if_pos rfl]
    · unfold f_Mo_drop
      by_cases h0 : k < 0
      · rw [if_pos h0]
      · rw [if_neg h0, zgI_k s_233, Option.bind_some, le, if_neg (by omega)]
  have hk := Classical.not_not.mp hk
  obtain ⟨k, rfl⟩ : ∃ n : Nat, k = n := ⟨k.toNat, by omega⟩
  obtain ⟨n, hn⟩ : ∃ n : Nat, μ 1 5 = n := ⟨(μ 1 5).toNat, by omega⟩
  obtain ⟨u, hu, eu⟩ := dc.1 k (by omega)
  obtain ⟨ρ1, a1, a2, a3, a4, a5, a6⟩ := c_drL (L := L) (k := k) (n := n) (by omega) (by omega) hu hn (n - (k + 1)) 100000 (k + 1) ρ (by omega) (by omega) (by omega) rc.1.2.2.2.1 dc.1
  have rc1 := rc.d a2
  have rm1 := rm.d a2
  -- where each line comes from
  have sg : ∀ j, j < 6 → ∃ i, i < 6 ∧ ρ1 11 j = ρ 11 i ∧ ((j < k ∧ i = j) ∨ (k ≤ j ∧ j + 1 < n ∧ i = j + 1) ∨ (j + 1 = n ∧ i = k) ∨ (n ≤ j ∧ i = j)) := by
    intro j hj
    by_cases h1 : j < k
    · exact ⟨j, hj, a3 j (by omega), Or.inl ⟨h1, rfl⟩⟩
    · by_cases h2 : j + 1 < n
      · exact ⟨j + 1, by omega, a4 j (by omega) h2, Or.inr (Or.inl ⟨by omega, h2, rfl⟩)⟩
      · by_cases h3 : j + 1 = n
        · refine ⟨k, by omega, ?_, Or.inr (Or.inr (Or.inl ⟨h3, rfl⟩))⟩
          rw [show j = n - 1 by omega, a5, eu]
        · exact ⟨j, hj, a6 j (by omega), Or.inr (Or.inr (Or.inr ⟨by omega, rfl⟩))⟩
  have dc1 : Dc ρ1 := by
    refine ⟨fun j hj => ?_, fun j j' hj hj' e => ?_⟩
    · obtain ⟨i, hi, e, -⟩ := sg j hj
      rw [e]
      exact dc.1 i hi
    · obtain ⟨i, hi, e1, c1⟩ := sg j hj
      obtain ⟨i', hi', e2, c2⟩ := sg j' hj'
      have : i = i' := dc.2 i i' hi hi' (by rw [← e1, ← e2]; exact e)
      omega
  obtain ⟨ν1, b1, b2, b3⟩ := m_drL (L := L) rm1 (μ := μ) (k := k) (n := n - 1) (by omega) (fun i => ρ1 11 i) (n - 1 - k) 100000 k (z_up ν 233 30 ((n - 1 : Nat) : Int)) (by omega) (by omega) z_up_eq (fun i hi => by
    have h := hl i (by omega)
    rw [← a3 i (by omega)] at h
    exact h.fr (fun _ _ _ _ => rfl) rfl (fun _ _ => rfl) (fun c hc => z_up_ne (by omega)) (fun c j hc _ _ => z_up_ne (by omega)) (fun j _ _ => z_up_ne (by decide)) (fun j _ _ => z_up_ne (by decide)) (fun j _ _ => z_up_ne (by decide)) (fun j _ _ => z_up_ne (by decide))) (fun i g1 g2 => by
    have h := hl (i + 1) (by omega)
    rw [← a4 i (by omega) (by omega)] at h
    exact h.fr (fun _ _ _ _ => rfl) rfl (fun _ _ => rfl) (fun c hc => z_up_ne (by omega)) (fun c j hc _ _ => z_up_ne (by omega)) (fun j _ _ => z_up_ne (by decide)) (fun j _ _ => z_up_ne (by decide)) (fun j _ _ => z_up_ne (by decide)) (fun j _ _ => z_up_ne (by decide)))
  have upC : ∀ c j, ¬ (c = 1 ∧ j = 5) → z_up μ 1 5 ((n - 1 : Nat) : Int) c j = μ c j := fun c j g => by rw [z_up, if_neg g]
  have upM : ∀ c j, c < 256 ∨ 266 < c → ¬ (c = 233 ∧ j = 30) → ν1 c j = ν c j := fun c j g1 g2 => (b2 c j g1).trans (by rw [z_up, if_neg g2])
  have rr' : RRules (z_up μ 1 5 ((n - 1 : Nat) : Int)) ν1 := rr.fr (upC _ _ (by omega)) (fun r j off g1 g2 => upC _ _ (by omega)) (fun r g1 => upC _ _ (by omega)) (upM _ _ (by omega) (by omega)) (fun c j g1 g2 => upM _ _ (by omega) (by omega)) (fun j hj => ⟨upM _ _ (by omega) (by omega), upM _ _ (by omega) (by omega)⟩) (fun c j g1 g2 g3 => upM _ _ (by omega) (by omega))
  have rt' : RTheme (z_up μ 1 5 ((n - 1 : Nat) : Int)) ν1 := rt.fr (upC _ _ (by omega)) (fun c j g1 g2 => upC _ _ (by omega)) (upM _ _ (by omega) (by omega)) (fun c j g1 g2 => upM _ _ (by omega) (by omega))
  have rd' : RDraft (z_up μ 1 5 ((n - 1 : Nat) : Int)) ν1 := rd.fr (upC _ _ (by omega)) (fun j => upC _ _ (by omega)) (upM _ _ (by omega) (by omega)) (fun j => upM _ _ (by omega) (by omega))
  have hB : Bas (z_up μ 1 5 ((n - 1 : Nat) : Int)) ν1 := by
    refine ⟨rr', ?_, ?_, ?_⟩
    · rw [upM 233 0 (by omega) (by omega), upC 32 0 (by omega)]
      exact rb
    · rw [upC 16 0 (by omega)]
      exact rn
    · rw [z_up_eq, b2 233 30 (by omega), z_up_eq]
      exact ⟨by omega, by omega, rfl⟩
  have hR : ∀ j : Nat, j < n - 1 → RLn (z_up μ 1 5 ((n - 1 : Nat) : Int)) ν1 (ρ1 11 j) j := by
    intro j hj
    have h := b3 j hj
    have l := dc1.l (show j < 6 by omega)
    exact h.fr (fun c j' g1 g2 => upC _ _ (by omega)) (upC _ _ (by omega)) (fun r g => upC _ _ (by omega)) (fun _ _ => rfl) (fun _ _ _ _ _ => rfl) (fun _ _ _ => rfl) (fun _ _ _ => rfl) (fun _ _ _ => rfl) (fun _ _ _ => rfl)
  have e5 : z_up μ 1 5 ((n - 1 : Nat) : Int) 1 5 = ((n - 1 : Nat) : Int) := z_up_eq
  obtain ⟨n', μ', ν', t1, t2, t3⟩ := ref_loop (L := L) rc1 rm1 dc1 (μ0 := z_up μ 1 5 ((n - 1 : Nat) : Int)) (ν0 := ν1) (n - 1 - k) 100000 100000 k 0 (z_up μ 1 5 ((n - 1 : Nat) : Int)) ν1 (by rw [e5]; omega) (by omega) (by omega) (by omega) ⟨fun _ _ _ => rfl, rfl, rfl⟩ (GFM.refl _) hB (by show ν1 233 31 = _; rw [upC 1 6 (by omega), pzn_0 rp0 rp1, upM 233 31 (by omega) (by omega), lp]) (fun j hj _ => hR j (by omega)) (fun h => ⟨(hR k (by omega)).t, Or.inl (hR k (by omega)).2.2.2⟩)
  have t1' : f_SL_tokenizeFrom 1 (k : Int) 0 (SH L, ρ1, z_up μ 1 5 ((n - 1 : Nat) : Int)) = some ((n' : Int), (SH L, ρ1, μ')) := t1
  have t2' : f_Mo_refresh 233 (k : Int) (SH L, ρ1, ν1) = some ((n' : Int), (SH L, ρ1, ν')) := t2
  refine ⟨(n' : Int), ρ1, μ', ν', ?_, ?_, fun c j g => (t3.b.1 c j g).trans (upC _ _ (by omega)), fun c j g => (t3.b.2 c j g).trans (upM _ _ (by omega) (by omega)), ⟨rc1, rm1, dc1⟩, Rel.of rd' rt' hB t3⟩
  · unfold f_SL_drop
    rw [zck_k s_1, Option.bind_some, e_isLineS, Option.bind_some]
    dsimp only
    rw [if_pos hk, if_neg (by decide), zgR_k s_1 rc.1.2.2.2.1 (by decide), Option.bind_some, e_doc hu (by omega) (by omega) (by rw [Int.toNat_natCast]; exact eu), Option.bind_some, zw_of (by omega) (by omega)]
    rw [show ((k + 1 : Nat) : Int) = (k : Int) + 1 by omega] at a1
    rw [a1, t1', Option.bind_some]
  · unfold f_Mo_drop
    rw [if_neg (by omega), zgI_k s_233, Option.bind_some, le, if_pos (by omega), Option.bind_some, hn, zw_of (by omega) (by omega), zpI_k s_233, Option.bind_some, show (n : Int) - 1 = ((n - 1 : Nat) : Int) by omega, b1, t2', Option.bind_some]
end Dr2
