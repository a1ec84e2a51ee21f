/-! token: scopes and colours -/
def b2i (b : Bool) : Int := if b = true then 1 else 0
def undB (σ : Nat → Int) (p : Int) : Nat → Bool
  | 0 => false
  | i + 1 => undB σ p i || decide (σ i = p)
theorem undB_mono (σ : Nat → Int) (p : Int) {a i : Nat} (h : a ≤ i) (hu : undB σ p a = true) : undB σ p i = true := by
  induction i with
  | zero =>
    have : a = 0 := by omega
    subst this
    exact hu
  | succ i ih =>
    by_cases ha : a = i + 1
    · subst ha; exact hu
    · unfold undB
      rw [ih (by omega)]
      rfl
/-- the class's entry for a scope -/
def bstE (es ep : Nat → Int) (s : Int) (u : Int → Bool) : Nat → Int
  | 0 => -1
  | e + 1 => if es e = s ∧ (ep e = 0 ∨ u (ep e) = true) then (if bstE es ep s u e ≠ -1 ∧ ep (bstE es ep s u e).toNat ≠ 0 ∧ ep e = 0 then bstE es ep s u e else (e : Int)) else bstE es ep s u e
/-- the model's colours -/
def entF (es ep ec : Nat → Int) (s : Int) (u : Int → Bool) : Nat → Int
  | 0 => 0
  | e + 1 => if es e = s ∧ 0 < ep e ∧ u (ep e) = true then ec e else entF es ep ec s u e
def entT (es ep ec : Nat → Int) (s : Int) : Nat → Int
  | 0 => 0
  | e + 1 => if es e = s ∧ ep e = 0 then ec e else entT es ep ec s e
theorem ent_bst (es ep ec : Nat → Int) (s : Int) (u : Int → Bool) : ∀ n, (∀ e, e < n → 1 ≤ ec e ∧ 0 ≤ ep e) → (-1 ≤ bstE es ep s u n ∧ bstE es ep s u n < n) ∧ ((bstE es ep s u n = -1 ∧ entF es ep ec s u n = 0 ∧ entT es ep ec s n = 0) ∨ (0 ≤ bstE es ep s u n ∧ ep (bstE es ep s u n).toNat ≠ 0 ∧ entF es ep ec s u n = ec (bstE es ep s u n).toNat) ∨ (0 ≤ bstE es ep s u n ∧ ep (bstE es ep s u n).toNat = 0 ∧ entF es ep ec s u n = 0 ∧ entT es ep ec s n = ec (bstE es ep s u n).toNat)) := by
  intro n
  induction n with
  | zero =>
    intro _
    exact ⟨⟨by show (-1 : Int) ≤ -1; omega, by show (-1 : Int) < (0 : Nat); omega⟩, Or.inl ⟨rfl, rfl, rfl⟩⟩
  | succ n ih =>
    intro hc
    have h := ih (fun e he => hc e (by omega))
    have hn := hc n (by omega)
    generalize hb : bstE es ep s u n = b at h
    generalize hf : entF es ep ec s u n = f at h
    generalize ht : entT es ep ec s n = t at h
    have e1 : bstE es ep s u (n + 1) = if es n = s ∧ (ep n = 0 ∨ u (ep n) = true) then (if b ≠ -1 ∧ ep b.toNat ≠ 0 ∧ ep n = 0 then b else (n : Int)) else b := by rw [← hb]; rfl
    have e2 : entF es ep ec s u (n + 1) = if es n = s ∧ 0 < ep n ∧ u (ep n) = true then ec n else f := by rw [← hf]; rfl
    have e3 : entT es ep ec s (n + 1) = if es n = s ∧ ep n = 0 then ec n else t := by rw [← ht]; rfl
    rw [e1, e2, e3]
    by_cases hs : es n = s
    · by_cases hp : ep n = 0
      · rw [if_pos ⟨hs, Or.inl hp⟩, if_neg (show ¬ (es n = s ∧ 0 < ep n ∧ u (ep n) = true) from fun z => by omega), if_pos (show es n = s ∧ ep n = 0 from ⟨hs, hp⟩)]
        by_cases ho : b ≠ -1 ∧ ep b.toNat ≠ 0 ∧ ep n = 0
        · rw [if_pos ho]
          rcases h with ⟨h0, h | h | h⟩
          · exact absurd h.1 ho.1
          · exact ⟨by omega, Or.inr (Or.inl h)⟩
          · exact absurd h.2.1 ho.2.1
        · rw [if_neg ho, Int.toNat_natCast]
          refine ⟨by omega, Or.inr (Or.inr ⟨by omega, hp, ?_, rfl⟩)⟩
          rcases h with ⟨h0, h | h | h⟩
          · exact h.2.1
          · exact absurd ⟨by omega, h.2.1, hp⟩ ho
          · exact h.2.2.1
      · by_cases hu : u (ep n) = true
        · rw [if_pos ⟨hs, Or.inr hu⟩, if_neg (by omega), if_pos ⟨hs, by omega, hu⟩, Int.toNat_natCast]
          exact ⟨by omega, Or.inr (Or.inl ⟨by omega, hp, rfl⟩)⟩
        · rw [if_neg (by rintro ⟨-, h | h⟩; exact hp h; exact hu h), if_neg (fun h => hu h.2.2), if_neg (fun h => hp h.2)]
          exact ⟨by omega, h.2⟩
    · rw [if_neg (fun h => hs h.1), if_neg (fun h => hs h.1), if_neg (fun h => hs h.1)]
      exact ⟨by omega, h.2⟩
section TK
variable {L : Nat} {ρ : Nat → Nat → Nat} {μ : Nat → Nat → Int}
theorem e_scopeOf {q t i : Nat} (hq : q < 6) (lr : lnR ρ (179 + 9 * q)) (ht : t < 24) (hi : i < 6) : f_Li_scopeOf (179 + 9 * q) (t : Int) (i : Int) (SH L, ρ, μ) = some (μ (179 + 9 * q + 4) (6 * t + i), (SH L, ρ, μ)) := by
  unfold f_Li_scopeOf
  rw [zgR_k (sl_0 hq) lr.2.2.2.1 (by omega), Option.bind_some, zw_of (x := (t : Int) * 6) (by omega) (by omega), zw_of (by omega) (by omega), zaI_k (sl_4 hq) (by omega) (by omega), Option.bind_some, show ((t : Int) * 6 + (i : Int)).toNat = 6 * t + i by omega]
theorem e_isUnder {q t i : Nat} (hq : q < 6) (lr : lnR ρ (179 + 9 * q)) (ht : t < 24) (hi : i < 6) (p : Int) : f_Pa_isUnder (179 + 9 * q) (t : Int) (i : Int) p (SH L, ρ, μ) = some (b2i (decide (p = 0) || undB (fun j => μ (179 + 9 * q + 4) (6 * t + j)) p i), (SH L, ρ, μ)) := by
  have loop : ∀ (m n a : Nat), a + m = i → m < n → f_Pa_isUnder_14 n (179 + 9 * q) (t : Int) (i : Int) p (b2i (decide (p = 0) || undB (fun j => μ (179 + 9 * q + 4) (6 * t + j)) p a)) (a : Int) (SH L, ρ, μ) = some (b2i (decide (p = 0) || undB (fun j => μ (179 + 9 * q + 4) (6 * t + j)) p i), (SH L, ρ, μ)) := by
    intro m
    induction m with
    | zero =>
      intro n a ha hn
      obtain ⟨n, rfl⟩ : ∃ k, n = k + 1 := ⟨n - 1, by omega⟩
      have : a = i := by omega
      subst this
      unfold f_Pa_isUnder_14
      rw [if_pos (by omega)]
      cases (decide (p = 0) || undB (fun j => μ (179 + 9 * q + 4) (6 * t + j)) p a) <;> rfl
    | succ m ih =>
      intro n a ha hn
      obtain ⟨n, rfl⟩ : ∃ k, n = k + 1 := ⟨n - 1, by omega⟩
      unfold f_Pa_isUnder_14
      rw [if_neg (by omega)]
      have nx := ih n (a + 1) (by omega) (by omega)
      by_cases hf : (decide (p = 0) || undB (fun j => μ (179 + 9 * q + 4) (6 * t + j)) p a) = true
      · have hI : (decide (p = 0) || undB (fun j => μ (179 + 9 * q + 4) (6 * t + j)) p i) = true := by
          rcases Bool.or_eq_true _ _ ▸ hf with h | h
          · rw [h]; rfl
          · rw [undB_mono _ _ (by omega) h, Bool.or_true]
        rw [hf, hI]
        rfl
      · have hf : (decide (p = 0) || undB (fun j => μ (179 + 9 * q + 4) (6 * t + j)) p a) = false := by simpa using hf
        rw [hf, if_pos (show b2i false = 0 from rfl), zck_k (sl_0 hq), Option.bind_some, e_scopeOf hq lr ht (by omega), Option.bind_some]
        dsimp only
        have h0 : decide (p = 0) = false := (Bool.or_eq_false_iff.mp hf).1
        have hu : undB (fun j => μ (179 + 9 * q + 4) (6 * t + j)) p a = false := (Bool.or_eq_false_iff.mp hf).2
        unfold f_Pa_isUnder_41
        rw [zw_nat (by omega)]
        by_cases hs : μ (179 + 9 * q + 4) (6 * t + a) = p
        · rw [if_pos hs]
          have : (decide (p = 0) || undB (fun j => μ (179 + 9 * q + 4) (6 * t + j)) p (a + 1)) = true := by
            unfold undB
            simp [hs]
          rw [this] at nx
          exact nx
        · rw [if_neg hs]
          have : (decide (p = 0) || undB (fun j => μ (179 + 9 * q + 4) (6 * t + j)) p (a + 1)) = false := by
            unfold undB
            rw [h0, hu]
            simp [hs]
          rw [this] at nx
          exact nx
  unfold f_Pa_isUnder f_Pa_isUnder_9
  have l0 := loop i 100000 0 (by omega) (by omega)
  by_cases hp : p = 0
  · rw [if_pos hp]
    have : (decide (p = 0) || undB (fun j => μ (179 + 9 * q + 4) (6 * t + j)) p 0) = true := by simp [hp]
    rw [this] at l0
    exact l0
  · rw [if_neg hp]
    have : (decide (p = 0) || undB (fun j => μ (179 + 9 * q + 4) (6 * t + j)) p 0) = false := by simp [hp, undB]
    rw [this] at l0
    exact l0
theorem e_entryFor {q t i C : Nat} (rc : Rc ρ) (hq : q < 6) (lr : lnR ρ (179 + 9 * q)) (ht : t < 24) (hi : i < 6) (hC : μ 12 3 = C) (h6 : C ≤ 6) : f_Pa_entryFor 12 (179 + 9 * q) (t : Int) (i : Int) (SH L, ρ, μ) = some (bstE (fun e => μ 13 e) (fun e => μ 14 e) (μ (179 + 9 * q + 4) (6 * t + i)) (fun p => undB (fun j => μ (179 + 9 * q + 4) (6 * t + j)) p i) C, (SH L, ρ, μ)) := by
  generalize hB : bstE (fun e => μ 13 e) (fun e => μ 14 e) (μ (179 + 9 * q + 4) (6 * t + i)) (fun p => undB (fun j => μ (179 + 9 * q + 4) (6 * t + j)) p i) = B
  have hbr : ∀ n, -1 ≤ B n ∧ B n < n := by
    intro n
    rw [← hB]
    induction n with
    | zero => exact ⟨by show (-1 : Int) ≤ -1; omega, by show (-1 : Int) < (0 : Nat); omega⟩
    | succ n ih =>
      unfold bstE
      split
      · split <;> omega
      · omega
  have loop : ∀ (m n a : Nat), a + m = C → m < n → f_Pa_entryFor_6 n 12 (179 + 9 * q) (t : Int) (i : Int) (B a) (a : Int) (SH L, ρ, μ) = some (B C, (SH L, ρ, μ)) := by
    intro m
    induction m with
    | zero =>
      intro n a ha hn
      obtain ⟨n, rfl⟩ : ∃ k, n = k + 1 := ⟨n - 1, by omega⟩
      have : a = C := by omega
      subst this
      unfold f_Pa_entryFor_6
      rw [zgI_k s_12, Option.bind_some, if_pos (by omega)]
    | succ m ih =>
      intro n a ha hn
      obtain ⟨n, rfl⟩ : ∃ k, n = k + 1 := ⟨n - 1, by omega⟩
      have nx := ih n (a + 1) (by omega) (by omega)
      have hba := hbr a
      have eB : B (a + 1) = if μ 13 a = μ (179 + 9 * q + 4) (6 * t + i) ∧ (μ 14 a = 0 ∨ undB (fun j => μ (179 + 9 * q + 4) (6 * t + j)) (μ 14 a) i = true) then (if B a ≠ -1 ∧ μ 14 (B a).toNat ≠ 0 ∧ μ 14 a = 0 then B a else (a : Int)) else B a := by rw [← hB]; rfl
      unfold f_Pa_entryFor_6
      have g1 : ∀ {v : Int}, 0 ≤ v → v < 6 → z_aI (SH L, ρ, μ) 20 14 v = some (μ 14 v.toNat) := fun h1 h2 => zaI_k s_14 h1 (by omega)
      have k94 : ∀ b : Int, b = B (a + 1) → f_Pa_entryFor_94 (f_Pa_entryFor_6 n) 12 (179 + 9 * q) (t : Int) (i : Int) b (a : Int) (SH L, ρ, μ) = some (B C, (SH L, ρ, μ)) := by
        intro b hb
        unfold f_Pa_entryFor_94
        rw [zw_nat (by omega), hb]
        exact nx
      rw [zgI_k s_12, Option.bind_some, if_neg (by omega), zgR_k s_12 rc.2.2.1.1 (by decide), Option.bind_some, zaI_k s_13 (by omega) (by omega), Option.bind_some, zck_k (sl_0 hq), Option.bind_some, e_scopeOf hq lr ht hi, Option.bind_some, Int.toNat_natCast]
      dsimp only
      have r14 : ∀ {j : Nat}, z_gR (SH L, ρ, μ) 3 12 1 = some 14 := zgR_k s_12 rc.2.2.1.2.1 (by decide)
      by_cases hs : μ 13 a = μ (179 + 9 * q + 4) (6 * t + i)
      · rw [if_pos hs, zgR_k s_12 rc.2.2.1.2.1 (by decide), Option.bind_some, g1 (by omega) (by omega), Option.bind_some, e_isUnder hq lr ht hi, Option.bind_some, Int.toNat_natCast]
        dsimp only
        by_cases hu : (decide (μ 14 a = 0) || undB (fun j => μ (179 + 9 * q + 4) (6 * t + j)) (μ 14 a) i) = true
        · have hu2 : μ 14 a = 0 ∨ undB (fun j => μ (179 + 9 * q + 4) (6 * t + j)) (μ 14 a) i = true := by simpa using hu
          rw [if_pos ⟨hs, hu2⟩] at eB
          rw [hu, if_neg (show ¬ b2i true = 0 by decide)]
          have take : f_Pa_entryFor_77 (f_Pa_entryFor_6 n) 12 (179 + 9 * q) (t : Int) (i : Int) (B a) (a : Int) (SH L, ρ, μ) = f_Pa_entryFor_94 (f_Pa_entryFor_6 n) 12 (179 + 9 * q) (t : Int) (i : Int) (a : Int) (a : Int) (SH L, ρ, μ) := rfl
          have keep : f_Pa_entryFor_78 (f_Pa_entryFor_6 n) 12 (179 + 9 * q) (t : Int) (i : Int) (B a) (a : Int) 1 (SH L, ρ, μ) = f_Pa_entryFor_94 (f_Pa_entryFor_6 n) 12 (179 + 9 * q) (t : Int) (i : Int) (B a) (a : Int) (SH L, ρ, μ) := rfl
          by_cases hm : B a = -1
          · rw [if_pos hm, take]
            exact k94 _ (by rw [eB, if_neg (fun z => z.1 hm)])
          · rw [if_neg hm, zgR_k s_12 rc.2.2.1.2.1 (by decide), Option.bind_some, g1 (by omega) (by omega), Option.bind_some]
            by_cases hp : μ 14 (B a).toNat = 0
            · rw [if_pos hp, take]
              exact k94 _ (by rw [eB, if_neg (fun z => z.2.1 hp)])
            · rw [if_neg hp, Option.bind_some, g1 (by omega) (by omega), Option.bind_some, Int.toNat_natCast]
              by_cases h0 : μ 14 a = 0
              · rw [if_pos h0, keep]
                exact k94 _ (by rw [eB, if_pos ⟨hm, hp, h0⟩])
              · rw [if_neg h0, take]
                exact k94 _ (by rw [eB, if_neg (fun z => h0 z.2.2)])
        · have hu2 : ¬ (μ 14 a = 0 ∨ undB (fun j => μ (179 + 9 * q + 4) (6 * t + j)) (μ 14 a) i = true) := by simpa using hu
          have hu : (decide (μ 14 a = 0) || undB (fun j => μ (179 + 9 * q + 4) (6 * t + j)) (μ 14 a) i) = false := by simpa using hu
          rw [if_neg (fun z => hu2 z.2)] at eB
          rw [hu, if_pos (show b2i false = 0 from rfl)]
          exact k94 _ eB.symm
      · rw [if_neg (fun z => hs z.1)] at eB
        rw [if_neg hs]
        exact k94 _ eB.symm
  have := loop C 100000 0 (by omega) (by omega)
  unfold f_Pa_entryFor
  rw [show (-1 : Int) = B 0 by rw [← hB]; rfl]
  exact this
theorem e_entryT {k t i C : Nat} (rm : Rm ρ) (hk : k < 6) (ht : t < 24) (hi : i < 6) (hC : μ 233 48 = C) (h6 : C ≤ 6) : f_Mo_entry 233 ((24 * k + t : Nat) : Int) (i : Int) 1 (SH L, ρ, μ) = some (entT (fun e => μ 269 e) (fun e => μ 270 e) (fun e => μ 271 e) (μ 262 (6 * (24 * k + t) + i)) C, (SH L, ρ, μ)) := by
  generalize hB : entT (fun e => μ 269 e) (fun e => μ 270 e) (fun e => μ 271 e) (μ 262 (6 * (24 * k + t) + i)) = B
  have r49 : z_gR (SH L, ρ, μ) 9 233 49 = some 269 := zgR_k s_233 (m_49 rm) (by decide)
  have r50 : z_gR (SH L, ρ, μ) 9 233 50 = some 270 := zgR_k s_233 (m_50 rm) (by decide)
  have r51 : z_gR (SH L, ρ, μ) 9 233 51 = some 271 := zgR_k s_233 (m_51 rm) (by decide)
  have r38 : z_gR (SH L, ρ, μ) 9 233 38 = some 262 := zgR_k s_233 (m_38 rm) (by decide)
  have loop : ∀ (m n a : Nat), a + m = C → m < n → f_Mo_entry_6 n 233 ((24 * k + t : Nat) : Int) (i : Int) 1 (B a) (a : Int) (SH L, ρ, μ) = some (B C, (SH L, ρ, μ)) := by
    intro m
    induction m with
    | zero =>
      intro n a ha hn
      obtain ⟨n, rfl⟩ : ∃ k, n = k + 1 := ⟨n - 1, by omega⟩
      have : a = C := by omega
      subst this
      unfold f_Mo_entry_6
      rw [zgI_k s_233, Option.bind_some, if_pos (by omega)]
    | succ m ih =>
      intro n a ha hn
      obtain ⟨n, rfl⟩ : ∃ k, n = k + 1 := ⟨n - 1, by omega⟩
      have nx := ih n (a + 1) (by omega) (by omega)
      have eB : B (a + 1) = if μ 269 a = μ 262 (6 * (24 * k + t) + i) ∧ μ 270 a = 0 then μ 271 a else B a := by rw [← hB]; rfl
      unfold f_Mo_entry_6
      have k137 : ∀ b : Int, b = B (a + 1) → f_Mo_entry_137 (f_Mo_entry_6 n) 233 ((24 * k + t : Nat) : Int) (i : Int) 1 (a : Int) b (SH L, ρ, μ) = some (B C, (SH L, ρ, μ)) := by
        intro b hb
        unfold f_Mo_entry_137
        rw [zw_nat (by omega), hb]
        exact nx
      have i39 : ∀ s0 : Int, f_Mo_entry_39 (f_Mo_entry_6 n) 100000 233 ((24 * k + t : Nat) : Int) (i : Int) 1 (B a) (a : Int) s0 0 (SH L, ρ, μ) = f_Mo_entry_99 (f_Mo_entry_6 n) 233 ((24 * k + t : Nat) : Int) (i : Int) 1 (B a) (a : Int) s0 (SH L, ρ, μ) := by
        intro s0
        show f_Mo_entry_39 (f_Mo_entry_6 n) (99999 + 1) _ _ _ _ _ _ _ _ _ = _
        unfold f_Mo_entry_39
        by_cases h0 : (i : Int) ≤ 0
        · rw [if_pos h0]
        · rw [if_neg h0, if_neg (by decide)]
      rw [zgI_k s_233, Option.bind_some, if_neg (by omega), if_neg (by decide), r50, Option.bind_some, zaI_k s_270 (by omega) (by omega), Option.bind_some, Int.toNat_natCast]
      by_cases hp : μ 270 a = 0
      · rw [if_pos hp]
        unfold f_Mo_entry_34
        rw [i39]
        unfold f_Mo_entry_99
        rw [if_neg (by decide), r49, Option.bind_some, zaI_k s_269 (by omega) (by omega), Option.bind_some, r38, Option.bind_some, zw_of (x := 6 * ((24 * k + t : Nat) : Int)) (by omega) (by omega), zw_of (by omega) (by omega), zaI_k s_262 (by omega) (by omega), Option.bind_some, Int.toNat_natCast, show (6 * ((24 * k + t : Nat) : Int) + (i : Int)).toNat = 6 * (24 * k + t) + i by omega]
        by_cases hs : μ 269 a = μ 262 (6 * (24 * k + t) + i)
        · rw [if_pos hs, r51, Option.bind_some, zaI_k s_271 (by omega) (by omega), Option.bind_some, Int.toNat_natCast]
          exact k137 _ (by rw [eB, if_pos ⟨hs, hp⟩])
        · rw [if_neg hs]
          unfold f_Mo_entry_135
          exact k137 _ (by rw [eB, if_neg (fun z => hs z.1)])
      · rw [if_neg hp]
        unfold f_Mo_entry_33 f_Mo_entry_34
        rw [i39]
        unfold f_Mo_entry_99
        rw [if_pos rfl]
        unfold f_Mo_entry_135
        exact k137 _ (by rw [eB, if_neg (fun z => hp z.2)])
  have := loop C 100000 0 (by omega) (by omega)
  unfold f_Mo_entry
  have e0 : B 0 = 0 := by rw [← hB]; rfl
  rw [e0] at this
  exact this
theorem e_entryF {k t i C : Nat} (rm : Rm ρ) (hk : k < 6) (ht : t < 24) (hi : i < 6) (hC : μ 233 48 = C) (h6 : C ≤ 6) : f_Mo_entry 233 ((24 * k + t : Nat) : Int) (i : Int) 0 (SH L, ρ, μ) = some (entF (fun e => μ 269 e) (fun e => μ 270 e) (fun e => μ 271 e) (μ 262 (6 * (24 * k + t) + i)) (fun p => undB (fun j => μ 262 (6 * (24 * k + t) + j)) p i) C, (SH L, ρ, μ)) := by
  generalize hB : entF (fun e => μ 269 e) (fun e => μ 270 e) (fun e => μ 271 e) (μ 262 (6 * (24 * k + t) + i)) (fun p => undB (fun j => μ 262 (6 * (24 * k + t) + j)) p i) = B
  have r49 : z_gR (SH L, ρ, μ) 9 233 49 = some 269 := zgR_k s_233 (m_49 rm) (by decide)
  have r50 : z_gR (SH L, ρ, μ) 9 233 50 = some 270 := zgR_k s_233 (m_50 rm) (by decide)
  have r51 : z_gR (SH L, ρ, μ) 9 233 51 = some 271 := zgR_k s_233 (m_51 rm) (by decide)
  have r38 : z_gR (SH L, ρ, μ) 9 233 38 = some 262 := zgR_k s_233 (m_38 rm) (by decide)
  have loop : ∀ (m n a : Nat), a + m = C → m < n → f_Mo_entry_6 n 233 ((24 * k + t : Nat) : Int) (i : Int) 0 (B a) (a : Int) (SH L, ρ, μ) = some (B C, (SH L, ρ, μ)) := by
    intro m
    induction m with
    | zero =>
      intro n a ha hn
      obtain ⟨n, rfl⟩ : ∃ k, n = k + 1 := ⟨n - 1, by omega⟩
      have : a = C := by omega
      subst this
      unfold f_Mo_entry_6
      rw [zgI_k s_233, Option.bind_some, if_pos (by omega)]
    | succ m ih =>
      intro n a ha hn
      obtain ⟨n, rfl⟩ : ∃ k, n = k + 1 := ⟨n - 1, by omega⟩
      have nx := ih n (a + 1) (by omega) (by omega)
      have eB : B (a + 1) = if μ 269 a = μ 262 (6 * (24 * k + t) + i) ∧ 0 < μ 270 a ∧ undB (fun j => μ 262 (6 * (24 * k + t) + j)) (μ 270 a) i = true then μ 271 a else B a := by rw [← hB]; rfl
      unfold f_Mo_entry_6
      have k137 : ∀ b : Int, b = B (a + 1) → f_Mo_entry_137 (f_Mo_entry_6 n) 233 ((24 * k + t : Nat) : Int) (i : Int) 0 (a : Int) b (SH L, ρ, μ) = some (B C, (SH L, ρ, μ)) := by
        intro b hb
        unfold f_Mo_entry_137
        rw [zw_nat (by omega), hb]
        exact nx
      generalize hU : (fun v => decide (0 < μ 270 a) && undB (fun j => μ 262 (6 * (24 * k + t) + j)) (μ 270 a) v) = U
      have inner : ∀ (m' n' v : Nat), v + m' = i → m' < n' → f_Mo_entry_39 (f_Mo_entry_6 n) n' 233 ((24 * k + t : Nat) : Int) (i : Int) 0 (B a) (a : Int) (b2i (U v)) (v : Int) (SH L, ρ, μ) = f_Mo_entry_99 (f_Mo_entry_6 n) 233 ((24 * k + t : Nat) : Int) (i : Int) 0 (B a) (a : Int) (b2i (U i)) (SH L, ρ, μ) := by
        intro m'
        induction m' with
        | zero =>
          intro n' v hv hn'
          obtain ⟨n', rfl⟩ : ∃ k, n' = k + 1 := ⟨n' - 1, by omega⟩
          have : v = i := by omega
          subst this
          unfold f_Mo_entry_39
          rw [if_pos (by omega)]
        | succ m' ih' =>
          intro n' v hv hn'
          obtain ⟨n', rfl⟩ : ∃ k, n' = k + 1 := ⟨n' - 1, by omega⟩
          have nx' := ih' n' (v + 1) (by omega) (by omega)
          have eU : U (v + 1) = (decide (0 < μ 270 a) && (undB (fun j => μ 262 (6 * (24 * k + t) + j)) (μ 270 a) v || decide (μ 262 (6 * (24 * k + t) + v) = μ 270 a))) := by rw [← hU]; rfl
          have eV : U v = (decide (0 < μ 270 a) && undB (fun j => μ 262 (6 * (24 * k + t) + j)) (μ 270 a) v) := by rw [← hU]
          have k91 : ∀ b : Int, b = b2i (U (v + 1)) → f_Mo_entry_91 (f_Mo_entry_6 n) (f_Mo_entry_39 (f_Mo_entry_6 n) n') 233 ((24 * k + t : Nat) : Int) (i : Int) 0 (B a) (a : Int) (v : Int) b (SH L, ρ, μ) = f_Mo_entry_99 (f_Mo_entry_6 n) 233 ((24 * k + t : Nat) : Int) (i : Int) 0 (B a) (a : Int) (b2i (U i)) (SH L, ρ, μ) := by
            intro b hb
            unfold f_Mo_entry_91
            rw [zw_nat (by omega), hb]
            exact nx'
          unfold f_Mo_entry_39
          rw [if_neg (by omega), if_pos rfl]
          unfold f_Mo_entry_86 f_Mo_entry_90
          cases hv2 : U v with
          | true =>
            rw [if_neg (show ¬ b2i true = 0 by decide)]
            refine k91 _ ?_
            rw [eV] at hv2
            have := Bool.and_eq_true _ _ ▸ hv2
            rw [eU, this.1, this.2]
            rfl
          | false =>
            rw [if_pos (show b2i false = 0 from rfl), r50, Option.bind_some, zaI_k s_270 (by omega) (by omega), Option.bind_some, Int.toNat_natCast]
            by_cases hp : μ 270 a ≤ 0
            · rw [if_pos hp]
              refine k91 _ ?_
              rw [eU, show decide (0 < μ 270 a) = false by simp; omega]
              rfl
            · have hd : decide (0 < μ 270 a) = true := by simp; omega
              rw [hd, Bool.true_and] at eV eU
              rw [eV] at hv2
              rw [if_neg hp, r38, Option.bind_some, zw_of (x := 6 * ((24 * k + t : Nat) : Int)) (by omega) (by omega), zw_of (by omega) (by omega), zaI_k s_262 (by omega) (by omega), Option.bind_some, Option.bind_some, zaI_k s_270 (by omega) (by omega), Option.bind_some, Int.toNat_natCast, show (6 * ((24 * k + t : Nat) : Int) + (v : Int)).toNat = 6 * (24 * k + t) + v by omega]
              by_cases hs : μ 262 (6 * (24 * k + t) + v) = μ 270 a
              · rw [if_pos hs]
                refine k91 _ ?_
                rw [eU, hv2]
                simp [hs, b2i]
              · rw [if_neg hs]
                refine k91 _ ?_
                rw [eU, hv2]
                simp [hs, b2i]
      have i0 := inner i 100000 0 (by omega) (by omega)
      have u0 : U 0 = false := by rw [← hU]; simp [undB]
      rw [u0] at i0
      have i0 : f_Mo_entry_39 (f_Mo_entry_6 n) 100000 233 ((24 * k + t : Nat) : Int) (i : Int) 0 (B a) (a : Int) 0 0 (SH L, ρ, μ) = _ := i0
      rw [zgI_k s_233, Option.bind_some, if_neg (by omega), if_pos rfl]
      unfold f_Mo_entry_33 f_Mo_entry_34
      rw [i0]
      unfold f_Mo_entry_99
      have eUi : U i = (decide (0 < μ 270 a) && undB (fun j => μ 262 (6 * (24 * k + t) + j)) (μ 270 a) i) := by rw [← hU]
      cases hui : U i with
      | false =>
        rw [if_pos (show b2i false = 0 from rfl)]
        unfold f_Mo_entry_135
        refine k137 _ ?_
        rw [eB, if_neg]
        rintro ⟨-, h2, h3⟩
        rw [eUi, h3] at hui
        simp at hui
        omega
      | true =>
        rw [eUi] at hui
        have hui := Bool.and_eq_true _ _ ▸ hui
        have hp : 0 < μ 270 a := by simpa using hui.1
        rw [if_neg (show ¬ b2i true = 0 by decide), r49, Option.bind_some, zaI_k s_269 (by omega) (by omega), Option.bind_some, r38, Option.bind_some, zw_of (x := 6 * ((24 * k + t : Nat) : Int)) (by omega) (by omega), zw_of (by omega) (by omega), zaI_k s_262 (by omega) (by omega), Option.bind_some, Int.toNat_natCast, show (6 * ((24 * k + t : Nat) : Int) + (i : Int)).toNat = 6 * (24 * k + t) + i by omega]
        by_cases hs : μ 269 a = μ 262 (6 * (24 * k + t) + i)
        · rw [if_pos hs, r51, Option.bind_some, zaI_k s_271 (by omega) (by omega), Option.bind_some, Int.toNat_natCast]
          exact k137 _ (by rw [eB, if_pos ⟨hs, hp, hui.2⟩])
        · rw [if_neg hs]
          unfold f_Mo_entry_135
          exact k137 _ (by rw [eB, if_neg (fun z => hs z.1)])
  have := loop C 100000 0 (by omega) (by omega)
  unfold f_Mo_entry
  have e0 : B 0 = 0 := by rw [← hB]; rfl
  rw [e0] at this
  exact this
end TK
