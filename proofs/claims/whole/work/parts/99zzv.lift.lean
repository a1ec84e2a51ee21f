/-! The model's lift: a text into a slot -/
section Lif
variable {L : Nat} {ρ : Nat → Nat → Nat} {pt a m : Nat}
theorem m_liftL (rm : Rm ρ) (hpt : pt < 22) (hm : m ≤ 21) (ham : a + m ≤ 40) : ∀ (d k N : Nat) (ν : Nat → Nat → Int), k + d = m → d < N → ∃ ν', f_Mo_lift_29 N 233 (pt : Int) (a : Int) (m : Int) (k : Int) (SH L, ρ, ν) = some (SH L, ρ, ν') ∧ (∀ j, k ≤ j → j < m → ν' 240 (21 * pt + j) = ν 234 (a + j)) ∧ (∀ q j, q ≠ 240 → ν' q j = ν q j) ∧ ∀ j, j < 21 * pt + k ∨ 21 * pt + 20 < j → ν' 240 j = ν 240 j := by
  intro d
  induction d with
  | zero =>
    intro k N ν hk hN
    obtain ⟨N, rfl⟩ : ∃ x, N = x + 1 := ⟨N - 1, by omega⟩
    refine ⟨ν, ?_, fun j h1 h2 => by omega, fun _ _ _ => rfl, fun _ _ => rfl⟩
    rw [f_Mo_lift_29]
    show (if _ then _ else _) = _
    rw [if_pos (by omega)]
  | succ d ih =>
    intro k N ν hk hN
    obtain ⟨N, rfl⟩ : ∃ x, N = x + 1 := ⟨N - 1, by omega⟩
    obtain ⟨ν', i1, i2, i3, i4⟩ := ih (k + 1) N (z_up ν 240 (21 * pt + k) (ν 234 (a + k))) (by omega) (by omega)
    refine ⟨ν', ?_, fun j h1 h2 => ?_, fun q j hq => (i3 q j hq).trans (z_up_ne hq), fun j hj => (i4 j (by omega)).trans (z_up_nj (by omega))⟩
    · rw [f_Mo_lift_29]
      show (if _ then _ else _) = _
      rw [if_neg (by omega), zgR_k s_233 (m_9 rm) (by decide), Option.bind_some, zgR_k s_233 (m_2 rm) (by decide), Option.bind_some, zw_of (x := (a : Int) + k) (by omega) (by omega), zaI_k s_234 (by omega) (by omega), Option.bind_some, show ((a : Int) + (k : Int)).toNat = a + k by omega, zw_of (x := 21 * (pt : Int)) (by omega) (by omega), zw_of (x := 21 * (pt : Int) + k) (by omega) (by omega), zsI_k s_240 (by omega) (by omega), Option.bind_some, show (21 * (pt : Int) + (k : Int)).toNat = 21 * pt + k by omega, zw_of (x := (k : Int) + 1) (by omega) (by omega), show (k : Int) + 1 = ((k + 1 : Nat) : Int) by omega]
      exact i1
    · by_cases e : j = k
      · subst e
        rw [i4 _ (by omega), z_up_eq]
      · rw [i2 j (by omega) h2, z_up_ne (by decide)]
theorem m_lift (rm : Rm ρ) (hpt : pt < 22) {b n : Nat} (hab : a + n = b) (hb : b ≤ 40) {ν : Nat → Nat → Int} : ∃ ν', f_Mo_lift 233 (pt : Int) (a : Int) (b : Int) (SH L, ρ, ν) = some (SH L, ρ, ν') ∧ ν' 239 pt = (if n ≤ 21 then (n : Int) else 21) ∧ (∀ j, j < n → j < 21 → ν' 240 (21 * pt + j) = ν 234 (a + j)) ∧ (∀ q j, q ≠ 239 → q ≠ 240 → ν' q j = ν q j) ∧ (∀ j, j ≠ pt → ν' 239 j = ν 239 j) ∧ ∀ j, j < 21 * pt ∨ 21 * pt + 20 < j → ν' 240 j = ν 240 j := by
  have gen : ∀ m : Nat, m ≤ 21 → m ≤ n → (∀ j, j < n → j < 21 → j < m) → (m : Int) = (if n ≤ 21 then (n : Int) else 21) → f_Mo_lift 233 (pt : Int) (a : Int) (b : Int) (SH L, ρ, ν) = f_Mo_lift_16 233 (pt : Int) (a : Int) (m : Int) (SH L, ρ, ν) → ∃ ν', f_Mo_lift 233 (pt : Int) (a : Int) (b : Int) (SH L, ρ, ν) = some (SH L, ρ, ν') ∧ ν' 239 pt = (if n ≤ 21 then (n : Int) else 21) ∧ (∀ j, j < n → j < 21 → ν' 240 (21 * pt + j) = ν 234 (a + j)) ∧ (∀ q j, q ≠ 239 → q ≠ 240 → ν' q j = ν q j) ∧ (∀ j, j ≠ pt → ν' 239 j = ν 239 j) ∧ ∀ j, j < 21 * pt ∨ 21 * pt + 20 < j → ν' 240 j = ν 240 j := by
    intro m m1 m2 m3 m4 e
    obtain ⟨ν', i1, i2, i3, i4⟩ := m_liftL (L := L) (ρ := ρ) (pt := pt) (a := a) (m := m) rm hpt m1 (by omega) m 0 100000 (z_up ν 239 pt (m : Int)) (by omega) (by omega)
    refine ⟨ν', ?_, ?_, fun j h1 h2 => ?_, fun q j h1 h2 => ?_, fun j hj => ?_, fun j hj => ?_⟩
    · rw [e]
      unfold f_Mo_lift_16
      rw [zgR_k s_233 (m_8 rm) (by decide), Option.bind_some, zsI_k s_239 (by omega) (by omega), Option.bind_some, Int.toNat_natCast]
      exact i1
    · rw [i3 239 pt (by decide), z_up_eq, m4]
    · rw [i2 j (Nat.zero_le _) (m3 j h1 h2), z_up_ne (by decide)]
    · rw [i3 q j h2, z_up_ne h1]
    · rw [i3 239 j (by decide), z_up_nj hj]
    · rw [i4 j (by omega), z_up_ne (by decide)]
  by_cases g : n ≤ 21
  · refine gen n g (Nat.le_refl _) (fun j h1 _ => h1) (by rw [if_pos g]) ?_
    unfold f_Mo_lift
    rw [zw_of (x := (b : Int) - a) (by omega) (by omega), show (b : Int) - a = (n : Int) by omega, if_pos (by omega)]
  · refine gen 21 (Nat.le_refl _) (by omega) (fun j _ h2 => h2) (by rw [if_neg g]; rfl) ?_
    unfold f_Mo_lift
    rw [zw_of (x := (b : Int) - a) (by omega) (by omega), if_neg (by omega)]
    rfl
end Lif
