/-! A whole set -/
theorem itN_le {c : Nat → Int} {n k : Nat} (hk : k < n) : k < itN c n k ∧ itN c n k ≤ n ∧ itN c n k ≤ k + 3 := by
  unfold itN
  by_cases h : rowB c n k = true
  · rw [if_pos h]
    have := (rowB_t.1 h).1
    omega
  · rw [if_neg h]
    omega
section Set2
variable {L : Nat} {ρ : Nat → Nat → Nat}
theorem e_setL (rc : Rc ρ) {p n : Nat} {c : Nat → Int} {ng fi : Int} : ∀ (m N ct k : Nat) (μ : Nat → Nat → Int), n ≤ k + m → ct + m ≤ 20 → m < N → Src μ n c → k ≤ n → μ 3 2 = k → (μ 3 4 = 0 ∨ μ 3 4 = 1) → ∃ (μ' : Nat → Nat → Int) (e : Nat), f_Pr_readSet_67 N 3 p ng fi (ct : Int) (SH L, ρ, μ) = f_Pr_readSet_109 3 p ng fi (SH L, ρ, μ') ∧ FrS μ μ' ∧ μ' 3 2 = e ∧ k ≤ e ∧ e ≤ n ∧ ((μ 3 4 = 0 ∧ itE c n (m + 1) k = some e ∧ μ' 3 4 = 0) ∨ (μ' 3 4 = 1 ∧ (μ 3 4 = 1 ∨ itE c n (m + 1) k = none))) ∧ ∀ d, 32 ≤ d → d ≤ 126 → inB (μ' 3 13) (μ' 3 14) d = (inB (μ 3 13) (μ 3 14) d || itM c n d (m + 1) k) := by
  intro m
  induction m with
  | zero =>
    intro N ct k μ h1 h2 h3 hs hk h5 h6
    obtain ⟨N, rfl⟩ : ∃ k, N = k + 1 := ⟨N - 1, by omega⟩
    have e1 : itE c n (0 + 1) k = some k := if_pos (Or.inl (by omega))
    have e2 : ∀ d, itM c n d (0 + 1) k = false := fun d => if_pos (Or.inl (by omega))
    refine ⟨μ, k, ?_, ⟨fun _ _ _ => rfl, fun _ _ _ _ _ => rfl⟩, h5, Nat.le_refl _, hk, ?_, fun d _ _ => by rw [e2, Bool.or_false]⟩
    · rw [f_Pr_readSet_67]
      show (if _ then _ else _) = _
      by_cases g : (20 : Int) ≤ (ct : Int)
      · rw [if_pos g]
      · rw [if_neg g, zgI_k s_3, Option.bind_some, h5, zgI_k s_3, Option.bind_some, hs.1, if_pos (by omega)]
    · obtain h6 | h6 := h6
      · exact Or.inl ⟨h6, e1, h6⟩
      · exact Or.inr ⟨h6, Or.inl h6⟩
  | succ m ih =>
    intro N ct k μ h1 h2 h3 hs hk h5 h6
    obtain ⟨N, rfl⟩ : ∃ k, N = k + 1 := ⟨N - 1, by omega⟩
    have s20 := hs.2.1
    by_cases hstop : n ≤ k ∨ c k = 93
    · have e1 : itE c n (m + 1 + 1) k = some k := if_pos hstop
      have e2 : ∀ d, itM c n d (m + 1 + 1) k = false := fun d => if_pos hstop
      refine ⟨μ, k, ?_, ⟨fun _ _ _ => rfl, fun _ _ _ _ _ => rfl⟩, h5, Nat.le_refl _, hk, ?_, fun d _ _ => by rw [e2, Bool.or_false]⟩
      · rw [f_Pr_readSet_67]
        show (if _ then _ else _) = _
        rw [if_neg (by omega), zgI_k s_3, Option.bind_some, h5, zgI_k s_3, Option.bind_some, hs.1]
        by_cases g : n ≤ k
        · rw [if_pos (by omega)]
        · rw [if_neg (by omega), zgR_k s_3 rc.2.1.1 (by decide), Option.bind_some, Option.bind_some, zaI_k s_4 (by omega) (by omega), Option.bind_some, Int.toNat_natCast, (hs.2.2.1 k (by omega)).1, if_pos (by omega)]
      · obtain h6 | h6 := h6
        · exact Or.inl ⟨h6, e1, h6⟩
        · exact Or.inr ⟨h6, Or.inl h6⟩
    · have hkn : k < n := by omega
      obtain ⟨n1, n2, n3⟩ := itN_le (c := c) hkn
      obtain ⟨μ1, a1, a2, a3, a4, a5⟩ := e_item (L := L) rc hs hkn h5 h6
      obtain ⟨μ', e, b1, b2, b3, b4, b5, b6, b7⟩ := ih N (ct + 1) (itN c n k) μ1 (by omega) (by omega) (by omega) (hs.fr a2) n2 a3 (by
        rw [a4]
        by_cases g : μ 3 4 = 0 ∧ c k ≤ itH c n k
        · rw [if_pos g]; exact Or.inl rfl
        · rw [if_neg g]; exact Or.inr rfl)
      have e1 : itE c n (m + 1 + 1) k = if itH c n k < c k then none else itE c n (m + 1) (itN c n k) := if_neg hstop
      have e2 : ∀ d, itM c n d (m + 1 + 1) k = (decide (c k ≤ d ∧ d ≤ itH c n k) || itM c n d (m + 1) (itN c n k)) := fun d => if_neg hstop
      refine ⟨μ', e, ?_, ⟨fun c' j g => (b2.1 c' j g).trans (a2.1 c' j g), fun j g1 g2 g3 g4 => (b2.2 j g1 g2 g3 g4).trans (a2.2 j g1 g2 g3 g4)⟩, b3, by omega, b5, ?_, fun d d0 d1 => ?_⟩
      · rw [f_Pr_readSet_67]
        show (if _ then _ else _) = _
        rw [if_neg (by omega), zgI_k s_3, Option.bind_some, h5, zgI_k s_3, Option.bind_some, hs.1, if_neg (by omega), zgR_k s_3 rc.2.1.1 (by decide), Option.bind_some, Option.bind_some, zaI_k s_4 (by omega) (by omega), Option.bind_some, Int.toNat_natCast, (hs.2.2.1 k hkn).1, if_neg (by omega), zck_k s_3, Option.bind_some, a1, Option.bind_some, zw_of (by omega) (by omega)]
        rw [show ((ct + 1 : Nat) : Int) = (ct : Int) + 1 by omega] at b1
        exact b1
      · rw [e1]
        rw [a4] at b6
        by_cases g : μ 3 4 = 0 ∧ c k ≤ itH c n k
        · rw [if_neg (show ¬ itH c n k < c k by omega)]
          obtain ⟨q1, q2, q3⟩ | ⟨q1, q2⟩ := b6
          · exact Or.inl ⟨g.1, q2, q3⟩
          · rw [if_pos g] at q2
            obtain q2 | q2 := q2
            · omega
            · exact Or.inr ⟨q1, Or.inr q2⟩
        · rw [if_neg g] at b6
          obtain ⟨q1, q2, q3⟩ | ⟨q1, q2⟩ := b6
          · omega
          · refine Or.inr ⟨q1, ?_⟩
            obtain h6 | h6 := h6
            · rw [if_pos (show itH c n k < c k by omega)]
              exact Or.inr rfl
            · exact Or.inl h6
      · rw [b7 d d0 d1, a5 d d0 d1, e2, Bool.or_assoc]
/-- the model's items -/
theorem m_items {pt n : Nat} (rm : Rm ρ) (hpt : pt < 22) {ν : Nat → Nat → Int} (hn : ν 239 pt = n) (h20 : n ≤ 20) (hc : ∀ j, j < n → 32 ≤ tA ν pt j ∧ tA ν pt j ≤ 126) : ∀ (m N k y : Nat), n ≤ k + m → m < N → k ≤ n → y ≤ k → f_Mo_items_22 N 233 (pt : Int) (k : Int) (y : Int) (SH L, ρ, ν) = some ((match itE (tA ν pt) n (m + 1) k with | none => -1 | some e => if (y = 0 ∧ e = k) ∨ n ≤ e then -1 else ((e + 1 : Nat) : Int)), (SH L, ρ, ν)) := by
  have hn21 : ν 239 pt ≤ 21 := by omega
  have z0 : ∀ j, n ≤ j → tA ν pt j = 0 := by
    intro j hj
    unfold tA
    rw [if_neg (by omega)]
  have fin : ∀ (k y : Nat), k ≤ n → f_Mo_items_132 233 (pt : Int) (k : Int) (y : Int) (SH L, ρ, ν) = some ((if (y = 0 ∧ k = k) ∨ n ≤ k then (-1 : Int) else ((k + 1 : Nat) : Int)), (SH L, ρ, ν)) := by
    intro k y hk
    unfold f_Mo_items_132
    by_cases h : y = 0
    · rw [if_pos (by omega), if_pos (Or.inl ⟨h, rfl⟩)]
    · rw [if_neg (by omega), zgR_k s_233 (m_8 rm) (by decide), Option.bind_some, zaI_k s_239 (by omega) (by omega), Option.bind_some, Int.toNat_natCast, hn]
      by_cases h2 : n ≤ k
      · rw [if_pos (by omega), if_pos (Or.inr h2)]
      · rw [if_neg (by omega), if_neg (by omega), zw_of (by omega) (by omega), show ((k + 1 : Nat) : Int) = (k : Int) + 1 by omega]
  intro m
  induction m with
  | zero =>
    intro N k y h1 h2 h3 h4
    obtain ⟨N, rfl⟩ : ∃ k, N = k + 1 := ⟨N - 1, by omega⟩
    have e1 : itE (tA ν pt) n (0 + 1) k = some k := if_pos (Or.inl (by omega))
    rw [e1, f_Mo_items_22]
    show (z_gR _ _ _ _).bind _ = _
    rw [zgR_k s_233 (m_8 rm) (by decide), Option.bind_some, zaI_k s_239 (by omega) (by omega), Option.bind_some, Int.toNat_natCast, hn, if_pos (by omega)]
    exact fin k y h3
  | succ m ih =>
    intro N k y h1 h2 h3 h4
    obtain ⟨N, rfl⟩ : ∃ k, N = k + 1 := ⟨N - 1, by omega⟩
    by_cases hstop : n ≤ k ∨ tA ν pt k = 93
    · have e1 : itE (tA ν pt) n (m + 1 + 1) k = some k := if_pos hstop
      rw [e1, f_Mo_items_22]
      show (z_gR _ _ _ _).bind _ = _
      rw [zgR_k s_233 (m_8 rm) (by decide), Option.bind_some, zaI_k s_239 (by omega) (by omega), Option.bind_some, Int.toNat_natCast, hn]
      by_cases g : n ≤ k
      · rw [if_pos (by omega)]
        exact fin k y h3
      · rw [if_neg (by omega), zck_k s_233, Option.bind_some, e_at rm hpt hn21 k rfl, Option.bind_some]
        dsimp only
        rw [if_pos (by omega)]
        exact fin k y h3
    · have hkn : k < n := by omega
      obtain ⟨n1, n2, n3⟩ := itN_le (c := tA ν pt) hkn
      have e1 : itE (tA ν pt) n (m + 1 + 1) k = if itH (tA ν pt) n k < tA ν pt k then none else itE (tA ν pt) n (m + 1) (itN (tA ν pt) n k) := if_neg hstop
      have ihk := ih N (itN (tA ν pt) n k) (y + 1) (by omega) (by omega) n2 (by omega)
      have go : ∀ st : Nat, itN (tA ν pt) n k = k + st → ¬ itH (tA ν pt) n k < tA ν pt k → f_Mo_items_125 (f_Mo_items_22 N) 233 (pt : Int) (y : Int) ((k : Int) + (st : Int)) (SH L, ρ, ν) = some ((match (if itH (tA ν pt) n k < tA ν pt k then none else itE (tA ν pt) n (m + 1) (itN (tA ν pt) n k)) with | none => -1 | some e => if (y = 0 ∧ e = k) ∨ n ≤ e then -1 else ((e + 1 : Nat) : Int)), (SH L, ρ, ν)) := by
        intro st hst hh
        unfold f_Mo_items_125
        rw [zw_of (by omega) (by omega), show (k : Int) + (st : Int) = ((itN (tA ν pt) n k : Nat) : Int) by omega, show (y : Int) + 1 = ((y + 1 : Nat) : Int) by omega, ihk, if_neg hh]
        cases hE : itE (tA ν pt) n (m + 1) (itN (tA ν pt) n k) with
        | none => rfl
        | some e =>
          have hle : itN (tA ν pt) n k ≤ e := by
            clear ihk
            have key : ∀ (f q e : Nat), itE (tA ν pt) n f q = some e → q ≤ e := by
              intro f
              induction f with
              | zero => intro q e h; cases h
              | succ f ihf =>
                intro q e h
                have h' : (if n ≤ q ∨ tA ν pt q = 93 then some q else if itH (tA ν pt) n q < tA ν pt q then none else itE (tA ν pt) n f (itN (tA ν pt) n q)) = some e := h
                by_cases g1 : n ≤ q ∨ tA ν pt q = 93
                · rw [if_pos g1] at h'
                  have := Option.some.inj h'
                  omega
                · rw [if_neg g1] at h'
                  by_cases g2 : itH (tA ν pt) n q < tA ν pt q
                  · rw [if_pos g2] at h'
                    cases h'
                  · rw [if_neg g2] at h'
                    have := ihf _ _ h'
                    have := itN_le (c := tA ν pt) (n := n) (k := q) (by omega)
                    omega
            exact key _ _ _ hE
          dsimp only
          by_cases g : n ≤ e
          · rw [if_pos (Or.inr g), if_pos (Or.inr g)]
          · rw [if_neg (by omega), if_neg (by omega)]
      rw [e1, f_Mo_items_22]
      show (z_gR _ _ _ _).bind _ = _
      rw [zgR_k s_233 (m_8 rm) (by decide), Option.bind_some, zaI_k s_239 (by omega) (by omega), Option.bind_some, Int.toNat_natCast, hn, if_neg (by omega), zck_k s_233, Option.bind_some, e_at rm hpt hn21 k rfl, Option.bind_some]
      dsimp only
      rw [if_neg (by omega), zck_k s_233, Option.bind_some, zw_of (x := (k : Int) + 1) (by omega) (by omega), e_at rm hpt hn21 (k + 1) (by omega), Option.bind_some]
      dsimp only
      -- a single character
      have sgl : rowB (tA ν pt) n k ≠ true → f_Mo_items_84 (f_Mo_items_22 N) 233 (pt : Int) (k : Int) (y : Int) (SH L, ρ, ν) = some ((match (if itH (tA ν pt) n k < tA ν pt k then none else itE (tA ν pt) n (m + 1) (itN (tA ν pt) n k)) with | none => -1 | some e => if (y = 0 ∧ e = k) ∨ n ≤ e then -1 else ((e + 1 : Nat) : Int)), (SH L, ρ, ν)) := by
        intro hr
        unfold f_Mo_items_84 f_Mo_items_85 f_Mo_items_111
        rw [if_pos rfl, if_pos rfl, zw_of (by omega) (by omega)]
        exact go 1 (by unfold itN; rw [if_neg hr]) (by unfold itH; rw [if_neg hr]; omega)
      by_cases q2 : tA ν pt (k + 1) = 45
      · rw [if_pos q2, zck_k s_233, Option.bind_some, zw_of (x := (k : Int) + 2) (by omega) (by omega), e_at rm hpt hn21 (k + 2) (by omega), Option.bind_some]
        dsimp only
        by_cases q3 : tA ν pt (k + 2) = 0
        · rw [if_pos q3]
          refine sgl fun hr => ?_
          have := hc (k + 2) (rowB_t.1 hr).1
          omega
        · have hk2 : k + 2 < n := by
            by_cases g : k + 2 < n
            · exact g
            · exact absurd (z0 (k + 2) (by omega)) q3
          rw [if_neg q3, zck_k s_233, Option.bind_some, e_at rm hpt hn21 (k + 2) (by omega), Option.bind_some]
          dsimp only
          by_cases q4 : tA ν pt (k + 2) = 93
          · rw [if_pos q4]
            exact sgl fun hr => (rowB_t.1 hr).2.2 q4
          · have hr : rowB (tA ν pt) n k = true := rowB_t.2 ⟨hk2, q2, q4⟩
            have eH : itH (tA ν pt) n k = tA ν pt (k + 2) := by unfold itH; rw [if_pos hr]
            unfold f_Mo_items_85 f_Mo_items_111
            rw [if_neg q4, if_neg (show ¬ (1 : Int) = 0 by decide), zck_k s_233, Option.bind_some, e_at rm hpt hn21 k rfl, Option.bind_some]
            dsimp only
            rw [zck_k s_233, Option.bind_some, zw_of (x := (k : Int) + 2) (by omega) (by omega), e_at rm hpt hn21 (k + 2) (by omega), Option.bind_some]
            dsimp only
            by_cases q5 : tA ν pt k ≤ tA ν pt (k + 2)
            · rw [if_pos q5, if_neg (show ¬ (1 : Int) = 0 by decide), zw_of (by omega) (by omega)]
              exact go 3 (by unfold itN; rw [if_pos hr]) (by rw [eH]; omega)
            · rw [if_neg q5, if_pos (by rw [eH]; omega)]
      · rw [if_neg q2]
        exact sgl fun hr => q2 (rowB_t.1 hr).2.1
end Set2
