/-! sameState of the model -/
def SMx (ν : Nat → Nat → Int) (x y j : Nat) : Prop := ν 264 (5 * x + j / 2) = ν 264 (5 * y + j / 2) ∧ ν 265 (10 * x + j) = ν 265 (10 * y + j) ∧ ∀ c : Nat, (c : Int) < ν 265 (10 * x + j) → ν 266 (240 * x + 24 * j + c) = ν 266 (240 * y + 24 * j + c)
section Sam2
variable {L : Nat} {ρ : Nat → Nat → Nat} {ν : Nat → Nat → Int} {x y : Nat}
theorem m_s92 (rm : Rm ρ) (hx : x < 8) (hy : y < 8) {j : Nat} (hj : j < 10) {n : Int} (hn : n ≤ 24) (K : Nat → Int → Int → Int → zH → Option (Int × zH)) : ∀ (m N c : Nat), c + m = 24 → m < N →
    ((∀ i : Nat, c ≤ i → (i : Int) < n → ν 266 (240 * x + 24 * j + i) = ν 266 (240 * y + 24 * j + i)) ∧ f_Mo_sameState_92 K N 233 (x : Int) (y : Int) (j : Int) n (c : Int) (SH L, ρ, ν) = K 233 (x : Int) (y : Int) ((j + 1 : Nat) : Int) (SH L, ρ, ν)) ∨
    ((¬ ∀ i : Nat, c ≤ i → (i : Int) < n → ν 266 (240 * x + 24 * j + i) = ν 266 (240 * y + 24 * j + i)) ∧ f_Mo_sameState_92 K N 233 (x : Int) (y : Int) (j : Int) n (c : Int) (SH L, ρ, ν) = some (0, (SH L, ρ, ν))) := by
  intro m
  induction m with
  | zero =>
    intro N c hc hN
    obtain ⟨N, rfl⟩ : ∃ k, N = k + 1 := ⟨N - 1, by omega⟩
    refine Or.inl ⟨fun i h1 h2 => by omega, ?_⟩
    rw [f_Mo_sameState_92]
    show (if _ then _ else _) = _
    rw [if_pos (by omega), zw_of (by omega) (by omega), show ((j + 1 : Nat) : Int) = (j : Int) + 1 by omega]
  | succ m ih =>
    intro N c hc hN
    obtain ⟨N, rfl⟩ : ∃ k, N = k + 1 := ⟨N - 1, by omega⟩
    have t1 : (240 * (x : Int) + 24 * (j : Int) + (c : Int)).toNat = 240 * x + 24 * j + c := by omega
    have t2 : (240 * (y : Int) + 24 * (j : Int) + (c : Int)).toNat = 240 * y + 24 * j + c := by omega
    by_cases h1 : n ≤ (c : Int)
    · refine Or.inl ⟨fun i h1 h2 => by omega, ?_⟩
      rw [f_Mo_sameState_92]
      show (if _ then _ else _) = _
      rw [if_pos h1, zw_of (by omega) (by omega), show ((j + 1 : Nat) : Int) = (j : Int) + 1 by omega]
    · have e : f_Mo_sameState_92 K (N + 1) 233 (x : Int) (y : Int) (j : Int) n (c : Int) (SH L, ρ, ν) = if ν 266 (240 * x + 24 * j + c) = ν 266 (240 * y + 24 * j + c) then f_Mo_sameState_92 K N 233 (x : Int) (y : Int) (j : Int) n ((c + 1 : Nat) : Int) (SH L, ρ, ν) else some (0, (SH L, ρ, ν)) := by
        rw [f_Mo_sameState_92]
        show (if _ then _ else _) = _
        rw [if_neg h1, show ((c + 1 : Nat) : Int) = (c : Int) + 1 by omega]
        simp (disch := omega) only [zgR_k s_233 (m_42 rm) (by decide), Option.bind_some, zw_of, zaI_k s_266, t1, t2]
      rw [e]
      by_cases h2 : ν 266 (240 * x + 24 * j + c) = ν 266 (240 * y + 24 * j + c)
      · rw [if_pos h2]
        obtain ⟨i1, i2⟩ | ⟨i1, i2⟩ := ih N (c + 1) (by omega) (by omega)
        · refine Or.inl ⟨fun i g1 g2 => ?_, i2⟩
          by_cases hi : i = c
          · rw [hi]; exact h2
          · exact i1 i (by omega) g2
        · exact Or.inr ⟨fun h => i1 fun i g1 g2 => h i (by omega) g2, i2⟩
      · rw [if_neg h2]
        exact Or.inr ⟨fun h => h2 (h c (Nat.le_refl _) (by omega)), rfl⟩
theorem m_s19 (rm : Rm ρ) (hx : x < 8) (hy : y < 8) (h5 : ν 263 x ≤ 5) (h24 : ∀ i : Nat, (i : Int) < 2 * ν 263 x → ν 265 (10 * x + i) ≤ 24) (h0 : 0 ≤ ν 263 x) : ∀ (m N j : Nat), j + m = 10 → m < N → ∃ z : Int, f_Mo_sameState_19 N 233 (x : Int) (y : Int) (j : Int) (SH L, ρ, ν) = some (z, (SH L, ρ, ν)) ∧ ((z = 1 ∧ ∀ i : Nat, j ≤ i → (i : Int) < 2 * ν 263 x → SMx ν x y i) ∨ (z = 0 ∧ ¬ ∀ i : Nat, j ≤ i → (i : Int) < 2 * ν 263 x → SMx ν x y i)) := by
  intro m
  induction m with
  | zero =>
    intro N j hj hN
    obtain ⟨N, rfl⟩ : ∃ k, N = k + 1 := ⟨N - 1, by omega⟩
    refine ⟨1, ?_, Or.inl ⟨rfl, fun i h1 h2 => by omega⟩⟩
    rw [f_Mo_sameState_19]
    show (z_gR _ _ _ _).bind _ = _
    rw [zgR_k s_233 (m_39 rm) (by decide), Option.bind_some, zaI_k s_263 (by omega) (by omega), Option.bind_some, Int.toNat_natCast, zw_of (by omega) (by omega), if_pos (by omega)]
  | succ m ih =>
    intro N j hj hN
    obtain ⟨N, rfl⟩ : ∃ k, N = k + 1 := ⟨N - 1, by omega⟩
    have t1 : (10 * (x : Int) + (j : Int)).toNat = 10 * x + j := by omega
    have t2 : (10 * (y : Int) + (j : Int)).toNat = 10 * y + j := by omega
    have t3 : (5 * (x : Int) + ((j / 2 : Nat) : Int)).toNat = 5 * x + j / 2 := by omega
    have t4 : (5 * (y : Int) + ((j / 2 : Nat) : Int)).toNat = 5 * y + j / 2 := by omega
    have td : (j : Int).tdiv 2 = ((j / 2 : Nat) : Int) := rfl
    by_cases h1 : 2 * ν 263 x ≤ (j : Int)
    · refine ⟨1, ?_, Or.inl ⟨rfl, fun i h1 h2 => by omega⟩⟩
      rw [f_Mo_sameState_19]
      show (z_gR _ _ _ _).bind _ = _
      rw [zgR_k s_233 (m_39 rm) (by decide), Option.bind_some, zaI_k s_263 (by omega) (by omega), Option.bind_some, Int.toNat_natCast, zw_of (by omega) (by omega), if_pos h1]
    have e : f_Mo_sameState_19 (N + 1) 233 (x : Int) (y : Int) (j : Int) (SH L, ρ, ν) = if ν 264 (5 * x + j / 2) = ν 264 (5 * y + j / 2) then (if ν 265 (10 * x + j) = ν 265 (10 * y + j) then f_Mo_sameState_92 (f_Mo_sameState_19 N) 100000 233 (x : Int) (y : Int) (j : Int) (ν 265 (10 * x + j)) ((0 : Nat) : Int) (SH L, ρ, ν) else some (0, (SH L, ρ, ν))) else some (0, (SH L, ρ, ν)) := by
      rw [f_Mo_sameState_19]
      show (z_gR _ _ _ _).bind _ = _
      rw [zgR_k s_233 (m_39 rm) (by decide), Option.bind_some, zaI_k s_263 (by omega) (by omega), Option.bind_some, Int.toNat_natCast, zw_of (by omega) (by omega), if_neg h1]
      simp (disch := omega) only [zgR_k s_233 (m_41 rm) (by decide), zgR_k s_233 (m_40 rm) (by decide), Option.bind_some, td, zw_of, zaI_k s_265, zaI_k s_264, t1, t2, t3, t4]
      rfl
    rw [e]
    by_cases h2 : ν 264 (5 * x + j / 2) = ν 264 (5 * y + j / 2)
    · rw [if_pos h2]
      by_cases h3 : ν 265 (10 * x + j) = ν 265 (10 * y + j)
      · rw [if_pos h3]
        obtain ⟨i1, i2⟩ | ⟨i1, i2⟩ := m_s92 (L := L) (ν := ν) rm hx hy (j := j) (by omega) (h24 j (by omega)) (f_Mo_sameState_19 N) 24 100000 0 (by omega) (by omega)
        · rw [i2]
          obtain ⟨z, e1, e2⟩ := ih N (j + 1) (by omega) (by omega)
          refine ⟨z, e1, ?_⟩
          obtain ⟨z1, z2⟩ | ⟨z1, z2⟩ := e2
          · refine Or.inl ⟨z1, fun i g1 g2 => ?_⟩
            by_cases hi : i = j
            · rw [hi]
              exact ⟨h2, h3, fun c hc => i1 c (Nat.zero_le _) hc⟩
            · exact z2 i (by omega) g2
          · exact Or.inr ⟨z1, fun h => z2 fun i g1 g2 => h i (by omega) g2⟩
        · rw [i2]
          exact ⟨0, rfl, Or.inr ⟨rfl, fun h => i1 fun c _ hc => (h j (Nat.le_refl _) (by omega)).2.2 c hc⟩⟩
      · rw [if_neg h3]
        exact ⟨0, rfl, Or.inr ⟨rfl, fun h => h3 (h j (Nat.le_refl _) (by omega)).2.1⟩⟩
    · rw [if_neg h2]
      exact ⟨0, rfl, Or.inr ⟨rfl, fun h => h2 (h j (Nat.le_refl _) (by omega)).1⟩⟩
theorem e_sameM (rm : Rm ρ) (hx : x < 8) (hy : y < 8) (h5 : ν 263 x ≤ 5) (h24 : ∀ i : Nat, (i : Int) < 2 * ν 263 x → ν 265 (10 * x + i) ≤ 24) (h0 : 0 ≤ ν 263 x) : ∃ z : Int, f_Mo_sameState 233 (x : Int) (y : Int) (SH L, ρ, ν) = some (z, (SH L, ρ, ν)) ∧ ((z = 1 ∧ ν 263 x = ν 263 y ∧ ∀ i : Nat, (i : Int) < 2 * ν 263 x → SMx ν x y i) ∨ (z = 0 ∧ ¬ (ν 263 x = ν 263 y ∧ ∀ i : Nat, (i : Int) < 2 * ν 263 x → SMx ν x y i))) := by
  have e : f_Mo_sameState 233 (x : Int) (y : Int) (SH L, ρ, ν) = if ν 263 x = ν 263 y then f_Mo_sameState_19 100000 233 (x : Int) (y : Int) ((0 : Nat) : Int) (SH L, ρ, ν) else some (0, (SH L, ρ, ν)) := by
    unfold f_Mo_sameState
    simp (disch := omega) only [zgR_k s_233 (m_39 rm) (by decide), Option.bind_some, zaI_k s_263, Int.toNat_natCast]
    rfl
  rw [e]
  by_cases h : ν 263 x = ν 263 y
  · rw [if_pos h]
    obtain ⟨z, e1, e2⟩ := m_s19 (L := L) (y := y) rm hx hy h5 h24 h0 10 100000 0 (by omega) (by omega)
    refine ⟨z, e1, ?_⟩
    obtain ⟨z1, z2⟩ | ⟨z1, z2⟩ := e2
    · exact Or.inl ⟨z1, h, fun i hi => z2 i (Nat.zero_le _) hi⟩
    · exact Or.inr ⟨z1, fun g => z2 fun i _ hi => g.2 i hi⟩
  · rw [if_neg h]
    exact ⟨0, rfl, Or.inr ⟨rfl, fun g => h g.1⟩⟩
end Sam2
theorem same_iff {μ ν : Nat → Nat → Int} {a b x y : Nat} (h1 : RSt μ ν a x) (h2 : RSt μ ν b y) : SSt μ a b ↔ (ν 263 x = ν 263 y ∧ ∀ i : Nat, (i : Int) < 2 * ν 263 x → SMx ν x y i) := by
  obtain ⟨a0, a5, ae, ar, at'⟩ := h1
  obtain ⟨b0, b5, be, br, bt⟩ := h2
  rw [ae, be]
  constructor
  · intro ⟨e, f⟩
    refine ⟨e, fun i hi => ?_⟩
    obtain ⟨f1, f2, f3⟩ := f (i / 2) (by omega)
    have st : STx μ a b i := by
      by_cases hp : i = 2 * (i / 2)
      · rw [hp]; exact f2
      · rw [show i = 2 * (i / 2) + 1 by omega]; exact f3
    obtain ⟨t1, t2⟩ := st
    obtain ⟨u1, u2, u3⟩ := at' i hi
    obtain ⟨v1, v2, v3⟩ := bt i (by omega)
    refine ⟨?_, ?_, fun c hc => ?_⟩
    · rw [(ar (i / 2) (by omega)).1, (br (i / 2) (by omega)).1]
      exact f1
    · rw [u1, v1]
      exact t1
    · rw [u1] at hc
      rw [(u3 c hc).1, (v3 c (by omega)).1]
      exact t2 c hc
  · intro ⟨e, f⟩
    have st : ∀ i : Nat, (i : Int) < 2 * μ a 0 → STx μ a b i := by
      intro i hi
      obtain ⟨t1, t2, t3⟩ := f i hi
      obtain ⟨u1, u2, u3⟩ := at' i hi
      obtain ⟨v1, v2, v3⟩ := bt i (by omega)
      rw [u1, v1] at t2
      refine ⟨t2, fun c hc => ?_⟩
      have := t3 c (by rw [u1]; exact hc)
      rw [(u3 c hc).1, (v3 c (by omega)).1] at this
      exact this
    refine ⟨e, fun l hl => ⟨?_, st _ (by omega), st _ (by omega)⟩⟩
    have := (f (2 * l) (by omega)).1
    rw [show 2 * l / 2 = l by omega, (ar l hl).1, (br l (by omega)).1] at this
    exact this
