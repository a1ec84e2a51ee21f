/-! The model's atoms -/
section Sim
variable {L : Nat} {ρ : Nat → Nat → Nat}
def enI (en : Bool) : Int := if en = true then 1 else 0
theorem m_items0 {pt n k k0 : Nat} (rm : Rm ρ) (hpt : pt < 22) {ν : Nat → Nat → Int} (hn : ν 239 pt = n) (h20 : n ≤ 20) (hc : ∀ j, j < n → 32 ≤ tA ν pt j ∧ tA ν pt j ≤ 126) (hk : k ≤ n) (hk0 : (tA ν pt k = 94 ∧ k0 = k + 1) ∨ (tA ν pt k ≠ 94 ∧ k0 = k)) : f_Mo_items 233 (pt : Int) (k : Int) (SH L, ρ, ν) = some ((match itE (tA ν pt) n (n - k0 + 1) k0 with | none => -1 | some e => if e = k0 ∨ n ≤ e then -1 else ((e + 1 : Nat) : Int)), (SH L, ρ, ν)) := by
  have z0 : ∀ j, n ≤ j → tA ν pt j = 0 := by
    intro j hj
    unfold tA
    rw [if_neg (by omega)]
  have hk0n : k0 ≤ n := by
    obtain ⟨g1, g2⟩ | ⟨g1, g2⟩ := hk0
    · have : k < n := by
        by_cases z : k < n
        · exact z
        · have := z0 k (by omega)
          omega
      omega
    · omega
  have it := m_items (L := L) rm hpt hn h20 hc (n - k0) 100000 k0 0 (by omega) (by omega) hk0n (by omega)
  have it : f_Mo_items_22 100000 233 (pt : Int) (k0 : Int) 0 (SH L, ρ, ν) = some ((match itE (tA ν pt) n (n - k0 + 1) k0 with | none => -1 | some e => if e = k0 ∨ n ≤ e then -1 else ((e + 1 : Nat) : Int)), (SH L, ρ, ν)) := by
    refine it.trans ?_
    cases itE (tA ν pt) n (n - k0 + 1) k0 with
    | none => rfl
    | some e =>
      dsimp only
      by_cases g : e = k0 ∨ n ≤ e
      · rw [if_pos g, if_pos (by omega)]
      · rw [if_neg g, if_neg (by omega)]
  unfold f_Mo_items f_Mo_items_18
  rw [zck_k s_233, Option.bind_some, e_at rm hpt (by omega) k rfl, Option.bind_some]
  dsimp only
  obtain ⟨g1, g2⟩ | ⟨g1, g2⟩ := hk0
  · rw [if_pos g1, zw_of (by omega) (by omega), show (k : Int) + 1 = (k0 : Int) by omega]
    exact it
  · rw [if_neg g1, show (k : Int) = (k0 : Int) by omega]
    exact it
theorem m_simple_ok {pt n i b : Nat} (rm : Rm ρ) (hpt : pt < 22) {ν : Nat → Nat → Int} (hn : ν 239 pt = n) (h20 : n ≤ 20) (hc : ∀ j, j < n → 32 ≤ tA ν pt j ∧ tA ν pt j ≤ 126) (hi : i < n) (en : Bool) (hci : tA ν pt i ≠ 40 ∧ tA ν pt i ≠ 41 ∧ tA ν pt i ≠ 124)
    (h : (tA ν pt i = 91 ∧ ∃ k0 e : Nat, ((tA ν pt (i + 1) = 94 ∧ k0 = i + 2) ∨ (tA ν pt (i + 1) ≠ 94 ∧ k0 = i + 1)) ∧ itE (tA ν pt) n (n - k0 + 1) k0 = some e ∧ e ≠ k0 ∧ e < n ∧ b = e + 1) ∨
        (tA ν pt i = 92 ∧ b = i + 2 ∧ i + 1 < n ∧ (48 ≤ tA ν pt (i + 1) ∧ tA ν pt (i + 1) ≤ 57 → en = true ∧ (tA ν pt (i + 1) = 49 ∨ tA ν pt (i + 1) = 50))) ∨
        (tA ν pt i ≠ 91 ∧ tA ν pt i ≠ 92 ∧ tA ν pt i ≠ 42 ∧ tA ν pt i ≠ 43 ∧ tA ν pt i ≠ 63 ∧ b = i + 1)) : f_Mo_simple 233 (pt : Int) (i : Int) (enI en) (SH L, ρ, ν) = some ((b : Int), (SH L, ρ, ν)) := by
  unfold f_Mo_simple
  rw [zck_k s_233, Option.bind_some, e_at rm hpt (by omega) i rfl, Option.bind_some]
  dsimp only
  obtain ⟨g1, k0, e, g2, g3, g4, g5, g6⟩ | ⟨g1, g2, g3, g4⟩ | ⟨g1, g2, g3, g4, g5, g6⟩ := h
  · have it := m_items0 (L := L) rm hpt hn h20 hc (k := i + 1) (k0 := k0) (by omega) (by omega)
    rw [g3] at it
    dsimp only at it
    rw [if_neg (by omega)] at it
    rw [if_pos g1, zck_k s_233, Option.bind_some, zw_of (by omega) (by omega), show (i : Int) + 1 = ((i + 1 : Nat) : Int) by omega, it, Option.bind_some, g6]
  · have d := hc (i + 1) g3
    rw [if_neg (by omega), if_pos g1, zck_k s_233, Option.bind_some, zw_of (x := (i : Int) + 1) (by omega) (by omega), e_at rm hpt (by omega) (i + 1) (by omega), Option.bind_some]
    dsimp only
    unfold f_Mo_simple_59 f_Mo_simple_60
    rw [zw_of (x := (i : Int) + 2) (by omega) (by omega), show (i : Int) + 2 = (b : Int) by omega]
    by_cases q1 : tA ν pt (i + 1) < 48
    · rw [if_pos q1, if_neg (by omega), if_pos rfl]
    rw [if_neg q1]
    by_cases q2 : 57 < tA ν pt (i + 1)
    · rw [if_pos q2, if_neg (by omega), if_pos rfl]
    rw [if_neg q2, if_neg (by omega), if_neg (show ¬ (1 : Int) = 0 by decide)]
    obtain ⟨q3, q4⟩ := g4 (by omega)
    subst q3
    rw [if_neg (show ¬ enI true = 0 by decide)]
    obtain q4 | q4 := q4
    · rw [if_pos q4]
    · rw [if_neg (by omega), if_pos q4]
  · unfold f_Mo_quantifier
    rw [if_neg g1, if_neg g2, if_neg hci.2.1, if_neg hci.2.2, if_neg g3, if_neg g4, if_neg g5, Option.bind_some]
    dsimp only
    rw [if_pos rfl, zw_of (by omega) (by omega), show (i : Int) + 1 = (b : Int) by omega]
theorem m_simple_bad {pt n i : Nat} (rm : Rm ρ) (hpt : pt < 22) {ν : Nat → Nat → Int} (hn : ν 239 pt = n) (h20 : n ≤ 20) (hc : ∀ j, j < n → 32 ≤ tA ν pt j ∧ tA ν pt j ≤ 126) (hi : i < n) (en : Bool) (hci : tA ν pt i ≠ 40 ∧ tA ν pt i ≠ 41 ∧ tA ν pt i ≠ 124)
    (h : (tA ν pt i = 91 ∧ ∃ k0 : Nat, ((tA ν pt (i + 1) = 94 ∧ k0 = i + 2) ∨ (tA ν pt (i + 1) ≠ 94 ∧ k0 = i + 1)) ∧ (itE (tA ν pt) n (n - k0 + 1) k0 = none ∨ ∃ e, itE (tA ν pt) n (n - k0 + 1) k0 = some e ∧ (e = k0 ∨ n ≤ e))) ∨
        (tA ν pt i = 92 ∧ (n ≤ i + 1 ∨ (48 ≤ tA ν pt (i + 1) ∧ tA ν pt (i + 1) ≤ 57 ∧ ¬ (en = true ∧ (tA ν pt (i + 1) = 49 ∨ tA ν pt (i + 1) = 50))))) ∨
        tA ν pt i = 42 ∨ tA ν pt i = 43 ∨ tA ν pt i = 63) : f_Mo_simple 233 (pt : Int) (i : Int) (enI en) (SH L, ρ, ν) = some (-1, (SH L, ρ, ν)) := by
  have z0 : ∀ j, n ≤ j → tA ν pt j = 0 := by
    intro j hj
    unfold tA
    rw [if_neg (by omega)]
  unfold f_Mo_simple
  rw [zck_k s_233, Option.bind_some, e_at rm hpt (by omega) i rfl, Option.bind_some]
  dsimp only
  obtain ⟨g1, k0, g2, g3⟩ | ⟨g1, g2⟩ | g1 := h
  · have it := m_items0 (L := L) rm hpt hn h20 hc (k := i + 1) (k0 := k0) (by omega) (by omega)
    have it2 : f_Mo_items 233 (pt : Int) ((i + 1 : Nat) : Int) (SH L, ρ, ν) = some (-1, (SH L, ρ, ν)) := by
      obtain g3 | ⟨e, g3, g4⟩ := g3
      · rw [g3] at it
        exact it
      · rw [g3] at it
        dsimp only at it
        rw [if_pos g4] at it
        exact it
    rw [if_pos g1, zck_k s_233, Option.bind_some, zw_of (by omega) (by omega), show (i : Int) + 1 = ((i + 1 : Nat) : Int) by omega, it2, Option.bind_some]
  · rw [if_neg (by omega), if_pos g1, zck_k s_233, Option.bind_some, zw_of (x := (i : Int) + 1) (by omega) (by omega), e_at rm hpt (by omega) (i + 1) (by omega), Option.bind_some]
    dsimp only
    unfold f_Mo_simple_59 f_Mo_simple_60 f_Mo_simple_90
    obtain g2 | ⟨g2, g3, g4⟩ := g2
    · have := z0 (i + 1) g2
      rw [if_pos (by omega), if_pos this]
    · rw [if_neg (by omega), if_neg (by omega), if_neg (by omega), if_neg (show ¬ (1 : Int) = 0 by decide)]
      cases en with
      | false =>
        rw [if_pos (show enI false = 0 from rfl)]
      | true =>
        rw [if_neg (show ¬ enI true = 0 by decide), if_neg (fun z => g4 ⟨rfl, Or.inl z⟩), if_neg (fun z => g4 ⟨rfl, Or.inr z⟩)]
  · unfold f_Mo_quantifier f_Mo_quantifier_18 f_Mo_simple_120
    rw [if_neg (by omega), if_neg (by omega), if_neg (by omega), if_neg (by omega)]
    obtain g1 | g1 | g1 := g1
    · rw [if_pos g1, Option.bind_some]
      dsimp only
      rw [if_neg (show ¬ (1 : Int) = 0 by decide)]
    · rw [if_neg (by omega), if_pos g1, Option.bind_some]
      dsimp only
      rw [if_neg (show ¬ (1 : Int) = 0 by decide)]
    · rw [if_neg (by omega), if_neg (by omega), if_pos g1, Option.bind_some]
      dsimp only
      rw [if_neg (show ¬ (1 : Int) = 0 by decide)]
end Sim
