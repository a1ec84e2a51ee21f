/-- both sides add the bytes k - 1 .. 0 -/
theorem t_both (L : Nat) (x : Int) (ρ : Nat → Nat → Nat) (rc : Rc ρ) (rm : Rm ρ) : ∀ (k n n' D : Nat) (μ ν : Nat → Nat → Int), k ≤ 8 → k < n → k < n' → D + z_cnt x k ≤ 40 → z_all x k → μ 1 1 = D → (∀ j, j < D → ν 234 j = μ 2 j ∧ 32 ≤ μ 2 j ∧ μ 2 j ≤ 126) →
    ∃ μ' ν', f_SL_type_79 n 1 x (8 * (k : Int) - 8) (SH L, ρ, μ) = some (1, (SH L, ρ, μ')) ∧ f_Mo_type_9 n' 233 x (D : Int) ((k : Int) - 1) (SH L, ρ, ν) = some (1, (SH L, ρ, ν')) ∧ μ' 1 1 = ((D + z_cnt x k : Nat) : Int) ∧ ν' 233 1 = ((D + z_cnt x k : Nat) : Int) ∧ (∀ j, j < D + z_cnt x k → ν' 234 j = μ' 2 j ∧ 32 ≤ μ' 2 j ∧ μ' 2 j ≤ 126) ∧ (∀ c j, ¬ (c = 1 ∧ j = 1) → c ≠ 2 → μ' c j = μ c j) ∧ (∀ c j, ¬ (c = 233 ∧ j = 1) → c ≠ 234 → ν' c j = ν c j) := by
  intro k
  induction k with
  | zero =>
    intro n n' D μ ν hk hn hn' hc ha h1 hd
    obtain ⟨m, rfl⟩ : ∃ m, n = m + 1 := ⟨n - 1, by omega⟩
    obtain ⟨m', rfl⟩ : ∃ m, n' = m + 1 := ⟨n' - 1, by omega⟩
    unfold f_SL_type_79 f_Mo_type_9
    rw [if_pos (by omega), if_pos (by omega), zpI_k s_233, Option.bind_some]
    refine ⟨μ, _, rfl, rfl, h1, z_up_eq, fun j hj => ?_, fun c j _ _ => rfl, fun c j h2 _ => if_neg h2⟩
    rw [z_up_ne (by decide)]
    exact hd j hj
  | succ k ih =>
    intro n n' D μ ν hk hn hn' hc ha h1 hd
    obtain ⟨m, rfl⟩ : ∃ m, n = m + 1 := ⟨n - 1, by omega⟩
    obtain ⟨m', rfl⟩ : ∃ m, n' = m + 1 := ⟨n' - 1, by omega⟩
    have hrg := by_rg x k
    have hok := ha k (by omega)
    have ha' : z_all x k := fun q hq => ha q (by omega)
    unfold f_SL_type_79 f_Mo_type_9
    rw [if_neg (show ¬ (8 * ((k + 1 : Nat) : Int) - 8 < 0) by omega), if_neg (show ¬ (((k + 1 : Nat) : Int) - 1 < 0) by omega)]
    have es : 8 * ((k + 1 : Nat) : Int) - 8 = 8 * (k : Int) := by omega
    have em : ((k + 1 : Nat) : Int) - 1 = (k : Int) := by omega
    rw [es, em, zw_of (x := 8 * (k : Int)) (by omega) (by omega), by_eq x k (by omega)]
    have eb : z_and (zw (z_lushr x (8 * (k : Int)))) 255 = z_by x k := rfl
    simp only [eb]
    have nS : ∀ μ', f_SL_type_122 (f_SL_type_79 m) 1 x (8 * (k : Int)) (SH L, ρ, μ') = f_SL_type_79 m 1 x (8 * (k : Int) - 8) (SH L, ρ, μ') := by
      intro μ'
      unfold f_SL_type_122
      rw [zw_of (by omega) (by omega)]
      rfl
    have nM : ∀ (d : Int) ν', f_Mo_type_71 (f_Mo_type_9 m') 233 x d (k : Int) (SH L, ρ, ν') = f_Mo_type_9 m' 233 x d ((k : Int) - 1) (SH L, ρ, ν') := by
      intro d ν'
      unfold f_Mo_type_71
      rw [zw_of (by omega) (by omega)]
      rfl
    by_cases hz : z_by x k = 0
    · have hcn : z_cnt x (k + 1) = z_cnt x k := by show z_cnt x k + _ = _; rw [if_pos hz]; rfl
      rw [hcn] at hc ⊢
      simp only [if_pos hz, nS]
      unfold f_Mo_type_55
      rw [if_pos hz, nM]
      exact ih m m' D μ ν (by omega) (by omega) (by omega) hc ha' h1 hd
    · have hcn : z_cnt x (k + 1) = z_cnt x k + 1 := by show z_cnt x k + _ = _; rw [if_neg hz]
      rw [hcn] at hc ⊢
      have hb : 32 ≤ z_by x k ∧ z_by x k ≤ 126 := by
        unfold z_okb at hok
        omega
      simp only [if_neg hz]
      rw [if_neg (show ¬ z_by x k < 32 by omega), if_neg (show ¬ 126 < z_by x k by omega), if_neg (show ¬ (D : Int) = 40 by omega)]
      unfold f_Mo_type_55
      rw [if_neg hz]
      have e65 : z_by x k % 65536 % 65536 = z_by x k := by omega
      simp (disch := omega) only [e65, Option.bind_some, zgR_k s_1 rc.1.1 (by decide), zgI_k s_1, zsI_k s_2, zpI_k s_1, z_up_ne, zw_of, h1, zgR_k s_233 (m_2 rm) (by decide), zsI_k s_234, nS, nM, Int.toNat_natCast]
      have := ih m m' (D + 1) (z_up (z_up μ 2 D (z_by x k)) 1 1 ((D : Int) + 1)) (z_up ν 234 D (z_by x k)) (by omega) (by omega) (by omega) (by omega) ha' (by rw [z_up_eq]; omega) (by
        intro j hj
        have q2 : z_up (z_up μ 2 D (z_by x k)) 1 1 ((D : Int) + 1) 2 j = z_up μ 2 D (z_by x k) 2 j := z_up_ne (by decide)
        rw [q2]
        by_cases hjd : j = D
        · subst hjd
          rw [z_up_eq, z_up_eq]
          exact ⟨rfl, hb⟩
        · rw [z_up_nj hjd, z_up_nj hjd]
          exact hd j (by omega))
      rw [show ((D + 1 : Nat) : Int) = (D : Int) + 1 by omega] at this
      obtain ⟨μ', ν', e1, e2, f1, f2, f3, f4, f5⟩ := this
      refine ⟨μ', ν', e1, e2, by rw [f1]; omega, by rw [f2]; omega, fun j hj => f3 j (by omega), fun c j g1 g2 => ?_, fun c j g1 g2 => ?_⟩
      · rw [f4 c j g1 g2]
        unfold z_up
        rw [if_neg g1, if_neg (fun q => g2 q.1)]
      · rw [f5 c j g1 g2, z_up_ne g2]
/-- the model refuses where a byte is none of a draft's, or the draft would be too long -/
theorem t_no (L : Nat) (x : Int) (ρ : Nat → Nat → Nat) (rm : Rm ρ) : ∀ (k n D : Nat) (ν : Nat → Nat → Int), k ≤ 8 → k < n → D ≤ 40 → ¬ (z_all x k ∧ D + z_cnt x k ≤ 40) →
    ∃ ν', f_Mo_type_9 n 233 x (D : Int) ((k : Int) - 1) (SH L, ρ, ν) = some (0, (SH L, ρ, ν')) ∧ (∀ c j, ¬ (c = 234 ∧ D ≤ j) → ν' c j = ν c j) := by
  intro k
  induction k with
  | zero =>
    intro n D ν hk hn hD hno
    exfalso
    apply hno
    refine ⟨fun q hq => by omega, ?_⟩
    show D + 0 ≤ 40
    omega
  | succ k ih =>
    intro n D ν hk hn hD hno
    obtain ⟨m, rfl⟩ : ∃ m, n = m + 1 := ⟨n - 1, by omega⟩
    have hrg := by_rg x k
    unfold f_Mo_type_9
    rw [if_neg (by omega)]
    have em : ((k + 1 : Nat) : Int) - 1 = (k : Int) := by omega
    rw [em, zw_of (x := 8 * (k : Int)) (by omega) (by omega), by_eq x k (by omega)]
    have hall : z_all x (k + 1) ↔ z_all x k ∧ z_okb (z_by x k) := by
      constructor
      · exact fun h => ⟨fun q hq => h q (by omega), h k (by omega)⟩
      · rintro ⟨h1, h2⟩ q hq
        by_cases hqk : q = k
        · subst hqk; exact h2
        · exact h1 q (by omega)
    have nM : ∀ (d : Int) ν', f_Mo_type_71 (f_Mo_type_9 m) 233 x d (k : Int) (SH L, ρ, ν') = f_Mo_type_9 m 233 x d ((k : Int) - 1) (SH L, ρ, ν') := by
      intro d ν'
      unfold f_Mo_type_71
      rw [zw_of (by omega) (by omega)]
      rfl
    by_cases hz : z_by x k = 0
    · have hcn : z_cnt x (k + 1) = z_cnt x k := by show z_cnt x k + _ = _; rw [if_pos hz]; rfl
      rw [hcn, hall] at hno
      rw [if_pos hz]
      unfold f_Mo_type_55
      rw [if_pos hz, nM]
      exact ih m D ν (by omega) (by omega) hD (fun ⟨h1, h2⟩ => hno ⟨⟨h1, Or.inl hz⟩, h2⟩)
    · have hcn : z_cnt x (k + 1) = z_cnt x k + 1 := by show z_cnt x k + _ = _; rw [if_neg hz]
      rw [hcn, hall] at hno
      rw [if_neg hz]
      by_cases h32 : z_by x k < 32
      · rw [if_pos h32]
        exact ⟨ν, rfl, fun _ _ _ => rfl⟩
      rw [if_neg h32]
      by_cases h126 : 126 < z_by x k
      · rw [if_pos h126]
        exact ⟨ν, rfl, fun _ _ _ => rfl⟩
      rw [if_neg h126]
      by_cases h40 : (D : Int) = 40
      · rw [if_pos h40]
        exact ⟨ν, rfl, fun _ _ _ => rfl⟩
      rw [if_neg h40]
      unfold f_Mo_type_55
      rw [if_neg hz]
      simp (disch := omega) only [Option.bind_some, zw_of, zgR_k s_233 (m_2 rm) (by decide), zsI_k s_234, nM, Int.toNat_natCast]
      obtain ⟨ν', e1, f1⟩ := ih m (D + 1) (z_up ν 234 D (z_by x k)) (by omega) (by omega) (by omega) (fun ⟨h1, h2⟩ => hno ⟨⟨h1, Or.inr ⟨by omega, by omega⟩⟩, by omega⟩)
      rw [show ((D + 1 : Nat) : Int) = (D : Int) + 1 by omega] at e1
      refine ⟨ν', e1, fun c j hc => ?_⟩
      rw [f1 c j (by omega)]
      unfold z_up
      rw [if_neg (by omega)]
theorem c_type (L : Nat) (x : Int) : CaseR L (f_SL_type 1 x) (f_Mo_type 233 x) := by
  intro ρ μ hI
  have hI0 := hI
  obtain ⟨rc, rm, dc, rd, rr, rl, rt, rb, rn⟩ := hI
  have r9 := rr.2.1
  obtain ⟨d0, d40, de, dd⟩ := id rd
  obtain ⟨D, hD⟩ : ∃ D : Nat, μ 1 1 = D := ⟨(μ 1 1).toNat, by omega⟩
  have h6 := t_6 L x ρ μ d0 d40 100000 8 0 (by omega) (by omega) (by omega)
  unfold f_SL_type
  by_cases hok : z_all x 8 ∧ D + z_cnt x 8 ≤ 40
  · have e6 : f_SL_type_6 100000 1 x 0 56 (SH L, ρ, μ) = f_SL_type_79 100000 1 x 56 (SH L, ρ, μ) := h6.1 ⟨hok.1, by omega⟩
    rw [e6]
    -- the class on μ, the model on what the class leaves
    obtain ⟨μ1, ν1, s1, -, s2, -, -, s3, -⟩ := t_both L x ρ rc rm 8 100000 100000 D μ μ (by omega) (by omega) (by omega) hok.2 hok.1 hD (fun j hj => dd j (by omega))
    obtain ⟨μ1', ν2, s1', m1, -, m2, m3, m4, m5⟩ := t_both L x ρ rc rm 8 100000 100000 D μ μ1 (by omega) (by omega) (by omega) hok.2 hok.1 hD (fun j hj => by rw [s3 234 j (by omega) (by omega)]; exact dd j (by omega))
    have : μ1' = μ1 := by
      have := s1'.symm.trans s1
      simp at this
      exact this
    subst this
    have sS : f_SL_type_79 100000 1 x 56 (SH L, ρ, μ) = some (1, (SH L, ρ, μ1')) := s1
    have mM : f_Mo_type_9 100000 233 x (D : Int) 7 (SH L, ρ, μ1') = some (1, (SH L, ρ, ν2)) := m1
    have up : ∀ c j, ¬ (c = 1 ∧ j = 1) → c ≠ 2 → ¬ (c = 233 ∧ j = 1) → c ≠ 234 → ν2 c j = μ c j := fun c j g1 g2 g3 g4 => (m5 c j g3 g4).trans (s3 c j g1 g2)
    refine ⟨1, ρ, μ1', ν2, sS, ?_, ⟨rc, rm, dc, ?_, ?_, ?_, ?_, ?_, ?_⟩, fun j => s3 0 j (by omega) (by omega), fun j => up 0 j (by omega) (by omega) (by omega) (by omega)⟩
    · unfold f_Mo_type
      rw [zgI_k s_233, Option.bind_some, s3 233 1 (by omega) (by omega), de, hD]
      exact mM
    · unfold RDraft
      rw [m5 1 1 (by omega) (by omega), s2, m2]
      refine ⟨by omega, by omega, rfl, fun j hj => ?_⟩
      rw [m5 2 j (by omega) (by omega)]
      exact m3 j (by omega)
    · exact rr.fr (up _ _ (by omega) (by omega) (by omega) (by omega)) (fun r j off h1 h2 => up _ _ (by omega) (by omega) (by omega) (by omega)) (fun r h1 => up _ _ (by omega) (by omega) (by omega) (by omega)) (up _ _ (by omega) (by omega) (by omega) (by omega)) (fun c j h1 h2 => up _ _ (by omega) (by omega) (by omega) (by omega)) (fun j hj => ⟨up _ _ (by omega) (by omega) (by omega) (by omega), up _ _ (by omega) (by omega) (by omega) (by omega)⟩) (fun c j h1 h2 h3 => up _ _ (by omega) (by omega) (by omega) (by omega))
    · exact rl.fr dc (up _ _ (by omega) (by omega) (by omega) (by omega)) (up _ _ (by omega) (by omega) (by omega) (by omega)) (up _ _ (by omega) (by omega) (by omega) (by omega)) (fun r h1 => up _ _ (by omega) (by omega) (by omega) (by omega)) (fun c j h1 h2 => up _ _ (by omega) (by omega) (by omega) (by omega)) (up _ _ (by omega) (by omega) (by omega) (by omega)) (up _ _ (by omega) (by omega) (by omega) (by omega)) (fun c j h1 h2 => up _ _ (by omega) (by omega) (by omega) (by omega)) (fun j h1 => up _ _ (by omega) (by omega) (by omega) (by omega)) (fun j h1 => up _ _ (by omega) (by omega) (by omega) (by omega)) (fun j h1 => up _ _ (by omega) (by omega) (by omega) (by omega)) (fun j h1 => up _ _ (by omega) (by omega) (by omega) (by omega))
    · exact rt.fr (up _ _ (by omega) (by omega) (by omega) (by omega)) (fun c j h1 h2 => up _ _ (by omega) (by omega) (by omega) (by omega)) (up _ _ (by omega) (by omega) (by omega) (by omega)) (fun c j h1 h2 => up _ _ (by omega) (by omega) (by omega) (by omega))
    · rw [up 233 0 (by omega) (by omega) (by omega) (by omega), up 32 0 (by omega) (by omega) (by omega) (by omega)]
      exact rb
    · rw [up 16 0 (by omega) (by omega) (by omega) (by omega), up 1 6 (by omega) (by omega) (by omega) (by omega)]
      exact rn
  · have e6 : f_SL_type_6 100000 1 x 0 56 (SH L, ρ, μ) = some (0, (SH L, ρ, μ)) := h6.2 (fun ⟨g1, g2⟩ => hok ⟨g1, by omega⟩)
    rw [e6]
    obtain ⟨ν1, m1, m2⟩ := t_no L x ρ rm 8 100000 D μ (by omega) (by omega) (by omega) hok
    have mM : f_Mo_type_9 100000 233 x (D : Int) 7 (SH L, ρ, μ) = some (0, (SH L, ρ, ν1)) := m1
    have up : ∀ c j, c ≠ 234 → ν1 c j = μ c j := fun c j g => m2 c j (by omega)
    refine ⟨0, ρ, μ, ν1, rfl, ?_, ⟨rc, rm, dc, ?_, ?_, ?_, ?_, ?_, ?_⟩, fun j => rfl, fun j => up 0 j (by omega)⟩
    · unfold f_Mo_type
      rw [zgI_k s_233, Option.bind_some, de, hD]
      exact mM
    · unfold RDraft
      rw [up 1 1 (by omega), up 233 1 (by omega)]
      refine ⟨d0, d40, de, fun j hj => ?_⟩
      rw [m2 234 j (by omega), up 2 j (by omega)]
      exact dd j hj
    · exact rr.fr (up _ _ (by omega)) (fun r j off h1 h2 => up _ _ (by omega)) (fun r h1 => up _ _ (by omega)) (up _ _ (by omega)) (fun c j h1 h2 => up _ _ (by omega)) (fun j hj => ⟨up _ _ (by omega), up _ _ (by omega)⟩) (fun c j h1 h2 h3 => up _ _ (by omega))
    · exact rl.fr dc (up _ _ (by omega)) (up _ _ (by omega)) (up _ _ (by omega)) (fun r h1 => up _ _ (by omega)) (fun c j h1 h2 => up _ _ (by omega)) (up _ _ (by omega)) (up _ _ (by omega)) (fun c j h1 h2 => up _ _ (by omega)) (fun j h1 => up _ _ (by omega)) (fun j h1 => up _ _ (by omega)) (fun j h1 => up _ _ (by omega)) (fun j h1 => up _ _ (by omega))
    · exact rt.fr (up _ _ (by omega)) (fun c j h1 h2 => up _ _ (by omega)) (up _ _ (by omega)) (fun c j h1 h2 => up _ _ (by omega))
    · rw [up 233 0 (by omega), up 32 0 (by omega)]
      exact rb
    · rw [up 16 0 (by omega), up 1 6 (by omega)]
      exact rn
