/-! The model's search as a machine of numbers: steps, over, matchTo, choices, group, choice -/
def MM (μ : Nat → Nat → Int) (st ov mt nc : Int) (G C : Nat → Int) : Nat → Nat → Int := fun c j =>
  if c = 233 then (match j with
    | 21 => st
    | 22 => ov
    | 24 => mt
    | 26 => nc
    | _ => μ 233 j) else if c = 252 then G j else if c = 253 then C j else μ c j
section MMx
variable {μ : Nat → Nat → Int} {st ov mt nc x : Int} {G C : Nat → Int}
theorem MM_self (μ : Nat → Nat → Int) : μ = MM μ (μ 233 21) (μ 233 22) (μ 233 24) (μ 233 26) (μ 252) (μ 253) := by
  funext c j
  unfold MM
  by_cases h : c = 233
  · subst h
    rw [if_pos rfl]
    split <;> rfl
  · rw [if_neg h]
    by_cases h3 : c = 252
    · subst h3; rw [if_pos rfl]
    · rw [if_neg h3]
      by_cases h4 : c = 253
      · subst h4; rw [if_pos rfl]
      · rw [if_neg h4]
theorem MM_up (j0 : Nat) (y : Int) (f g : Nat → Nat → Int) (h : ∀ c j, ¬ (c = 233 ∧ j = j0) → f c j = g c j) (h0 : f 233 j0 = y) : z_up g 233 j0 y = f := by
  funext c j
  unfold z_up
  by_cases hc : c = 233 ∧ j = j0
  · rw [if_pos hc, hc.1, hc.2, h0]
  · rw [if_neg hc, h c j hc]
theorem MM_o (c : Nat) (hc : c ≠ 233) (h3 : c ≠ 252) (h4 : c ≠ 253) (j : Nat) : MM μ st ov mt nc G C c j = μ c j := by
  unfold MM
  rw [if_neg hc, if_neg h3, if_neg h4]
theorem MM_21 : MM μ st ov mt nc G C 233 21 = st := rfl
theorem MM_22 : MM μ st ov mt nc G C 233 22 = ov := rfl
theorem MM_24 : MM μ st ov mt nc G C 233 24 = mt := rfl
theorem MM_26 : MM μ st ov mt nc G C 233 26 = nc := rfl
theorem MM_0 : MM μ st ov mt nc G C 233 0 = μ 233 0 := rfl
theorem MM_23 : MM μ st ov mt nc G C 233 23 = μ 233 23 := rfl
theorem MM_252 (j : Nat) : MM μ st ov mt nc G C 252 j = G j := rfl
theorem MM_253 (j : Nat) : MM μ st ov mt nc G C 253 j = C j := rfl
theorem MM_u21 : z_up (MM μ st ov mt nc G C) 233 21 x = MM μ x ov mt nc G C := MM_up 21 x _ _ (fun c j h => by
  unfold MM
  by_cases hc : c = 233
  · subst hc
    rw [if_pos rfl, if_pos rfl]
    split <;> first | rfl | (exact absurd ⟨rfl, rfl⟩ h)
  · rw [if_neg hc, if_neg hc]) rfl
theorem MM_u22 : z_up (MM μ st ov mt nc G C) 233 22 x = MM μ st x mt nc G C := MM_up 22 x _ _ (fun c j h => by
  unfold MM
  by_cases hc : c = 233
  · subst hc
    rw [if_pos rfl, if_pos rfl]
    split <;> first | rfl | (exact absurd ⟨rfl, rfl⟩ h)
  · rw [if_neg hc, if_neg hc]) rfl
theorem MM_u24 : z_up (MM μ st ov mt nc G C) 233 24 x = MM μ st ov x nc G C := MM_up 24 x _ _ (fun c j h => by
  unfold MM
  by_cases hc : c = 233
  · subst hc
    rw [if_pos rfl, if_pos rfl]
    split <;> first | rfl | (exact absurd ⟨rfl, rfl⟩ h)
  · rw [if_neg hc, if_neg hc]) rfl
theorem MM_u26 : z_up (MM μ st ov mt nc G C) 233 26 x = MM μ st ov mt x G C := MM_up 26 x _ _ (fun c j h => by
  unfold MM
  by_cases hc : c = 233
  · subst hc
    rw [if_pos rfl, if_pos rfl]
    split <;> first | rfl | (exact absurd ⟨rfl, rfl⟩ h)
  · rw [if_neg hc, if_neg hc]) rfl
theorem MM_g (k : Nat) : z_up (MM μ st ov mt nc G C) 252 k x = MM μ st ov mt nc (ud G k x) C := by
  funext c j
  unfold z_up MM ud
  by_cases h3 : c = 252
  · subst h3
    by_cases hj : j = k
    · simp [hj]
    · simp [hj]
  · simp [h3]
theorem MM_c (k : Nat) : z_up (MM μ st ov mt nc G C) 253 k x = MM μ st ov mt nc G (ud C k x) := by
  funext c j
  unfold z_up MM ud
  by_cases h3 : c = 253
  · subst h3
    by_cases hj : j = k
    · simp [hj]
    · simp [hj]
  · simp [h3]
end MMx
section MRun
variable {L : Nat} {ρ : Nat → Nat → Nat} {μ : Nat → Nat → Int} {st ov mt nc : Int} {G C : Nat → Int}
theorem e_at (rm : Rm ρ) {pt : Nat} (hpt : pt < 22) (hn : μ 239 pt ≤ 21) (i : Nat) {a : Int} (ha : a = i) : f_Mo_at 233 pt a (SH L, ρ, μ) = some (tA μ pt i, (SH L, ρ, μ)) := by
  subst ha
  unfold f_Mo_at tA
  rw [zgR_k s_233 (m_8 rm) (by decide), Option.bind_some, zaI_k s_239 (by omega) (by omega), Option.bind_some, Int.toNat_natCast]
  by_cases h : (i : Int) < μ 239 pt
  · rw [if_neg (by omega), if_pos h, zgR_k s_233 (m_9 rm) (by decide), Option.bind_some, zw_of (x := 21 * (pt : Int)) (by omega) (by omega), zw_of (by omega) (by omega), zaI_k s_240 (by omega) (by omega), Option.bind_some, show (21 * (pt : Int) + i).toNat = 21 * pt + i by omega]
  · rw [if_pos (by omega), if_neg h]
theorem tA_MM {pt : Nat} : tA (MM μ st ov mt nc G C) pt = tA μ pt := by
  funext i
  unfold tA
  rw [MM_o 239 (by decide) (by decide) (by decide), MM_o 240 (by decide) (by decide) (by decide)]
theorem e_isRef (rm : Rm ρ) {pt : Nat} (hpt : pt < 22) (hn : μ 239 pt ≤ 21) (i : Nat) (hi : i < 100) : f_Mo_isRef 233 pt i (SH L, ρ, μ) = some (isR (tA μ pt) i, (SH L, ρ, μ)) := by
  unfold f_Mo_isRef isR
  rw [zck_k s_233, Option.bind_some, e_at rm hpt hn i rfl, Option.bind_some]
  by_cases h1 : tA μ pt i = 92
  · rw [if_pos h1, zw_of (by omega) (by omega), zck_k s_233, Option.bind_some, e_at rm hpt hn (i + 1) (by omega), Option.bind_some]
    by_cases h2 : tA μ pt (i + 1) < 48
    · rw [if_pos h2, if_neg (by omega)]
    · rw [if_neg h2, zck_k s_233, Option.bind_some, e_at rm hpt hn (i + 1) (by omega), Option.bind_some]
      by_cases h3 : 57 < tA μ pt (i + 1)
      · rw [if_pos h3, if_neg (by omega)]
      · rw [if_neg h3, if_pos (by omega)]
  · rw [if_neg h1, if_neg (by omega)]
theorem e_ended (rm : Rm ρ) {pt : Nat} (hpt : pt < 22) (hn : μ 239 pt ≤ 21) (i : Nat) : f_Mo_ended 233 pt i (SH L, ρ, μ) = some (isE (tA μ pt) i, (SH L, ρ, μ)) := by
  unfold f_Mo_ended isE f_Mo_ended_23
  rw [zck_k s_233, Option.bind_some, e_at rm hpt hn i rfl, Option.bind_some]
  by_cases h1 : tA μ pt i = 0
  · rw [if_pos h1, if_pos (by omega)]
  · rw [if_neg h1]
    by_cases h2 : tA μ pt i = 124
    · rw [if_pos h2, if_pos (by omega)]
    · rw [if_neg h2]
      by_cases h3 : tA μ pt i = 41
      · rw [if_pos h3, if_pos (by omega)]
      · rw [if_neg h3, if_neg (by omega)]
theorem e_inL (rm : Rm ρ) {pt : Nat} (hpt : pt < 22) (hn : μ 239 pt ≤ 21) {en : Nat} (hen : en ≤ 21) (c no : Int) : ∀ (m N k : Nat) (fo : Int), en ≤ k + m → m < N → k ≤ 24 → f_Mo_inItems_54 N 233 pt c no k fo en (SH L, ρ, μ) = some (if inL (tA μ pt) en c m k fo = no then 0 else 1, (SH L, ρ, μ)) := by
  intro m
  induction m with
  | zero =>
    intro N k fo h1 h2 h3
    obtain ⟨N, rfl⟩ : ∃ x, N = x + 1 := ⟨N - 1, by omega⟩
    unfold f_Mo_inItems_54 inL
    rw [if_pos (by omega)]
    by_cases hf : fo = no
    · rw [if_pos hf, if_pos hf]
    · rw [if_neg hf, if_neg hf]
  | succ m ih =>
    intro N k fo h1 h2 h3
    obtain ⟨N, rfl⟩ : ∃ x, N = x + 1 := ⟨N - 1, by omega⟩
    unfold f_Mo_inItems_54 inL
    by_cases hk : en ≤ k
    · rw [if_pos (by omega), if_pos hk]
      by_cases hf : fo = no
      · rw [if_pos hf, if_pos hf]
      · rw [if_neg hf, if_neg hf]
    · rw [if_neg (by omega), if_neg hk, zck_k s_233, Option.bind_some, zw_of (x := (k : Int) + 1) (by omega) (by omega), e_at rm hpt hn (k + 1) (by omega), Option.bind_some]
      have j1 : ∀ (x : Int), f_Mo_inItems_143 (f_Mo_inItems_54 N) 233 pt c no k en 0 x (SH L, ρ, μ) = some (if inL (tA μ pt) en c m (k + 1) x = no then 0 else 1, (SH L, ρ, μ)) := by
        intro x
        unfold f_Mo_inItems_143 f_Mo_inItems_161
        rw [if_pos rfl, zw_of (by omega) (by omega)]
        exact ih N (k + 1) x (by omega) (by omega) (by omega)
      have j3 : k + 2 < en → ∀ (x : Int), f_Mo_inItems_143 (f_Mo_inItems_54 N) 233 pt c no k en 1 x (SH L, ρ, μ) = some (if inL (tA μ pt) en c m (k + 3) x = no then 0 else 1, (SH L, ρ, μ)) := by
        intro hk3 x
        unfold f_Mo_inItems_143 f_Mo_inItems_161
        rw [if_neg (by decide), zw_of (by omega) (by omega)]
        exact ih N (k + 3) x (by omega) (by omega) (by omega)
      have q : ∀ (a8 lo hi : Int) (R : Int → Option (Int × zH)), (∀ x, f_Mo_inItems_143 (f_Mo_inItems_54 N) 233 pt c no k en a8 x (SH L, ρ, μ) = R x) → f_Mo_inItems_119 (f_Mo_inItems_54 N) 233 pt c no k fo en a8 lo hi (SH L, ρ, μ) = R (if fo = 0 ∧ ¬ (lo ≤ c ∧ c ≤ hi) then 0 else 1) := by
        intro a8 lo hi R hR
        unfold f_Mo_inItems_119 f_Mo_inItems_142 f_Mo_inItems_138
        by_cases hf : fo = 0
        · rw [if_pos hf]
          by_cases hl : c < lo
          · rw [if_pos hl, if_pos (by omega), hR]
          · rw [if_neg hl]
            by_cases hh : hi < c
            · rw [if_pos hh, if_pos (by omega), hR]
            · rw [if_neg hh, if_neg (by omega), hR]
        · rw [if_neg hf, if_neg (by omega), hR]
      by_cases h45 : tA μ pt (k + 1) = 45
      · rw [if_pos h45, zw_of (x := (k : Int) + 2) (by omega) (by omega)]
        by_cases hk2 : (en : Int) ≤ (k : Int) + 2
        · rw [if_pos hk2, if_neg (show ¬ (tA μ pt (k + 1) = 45 ∧ k + 2 < en) by omega)]
          unfold f_Mo_inItems_88 f_Mo_inItems_89
          rw [zck_k s_233, Option.bind_some, e_at rm hpt hn k rfl, Option.bind_some, if_pos rfl]
          exact q 0 _ _ _ j1
        · rw [if_neg hk2, if_pos (show tA μ pt (k + 1) = 45 ∧ k + 2 < en by omega)]
          unfold f_Mo_inItems_89
          rw [zck_k s_233, Option.bind_some, e_at rm hpt hn k rfl, Option.bind_some, if_neg (show ¬ (1 : Int) = 0 by decide), zck_k s_233, Option.bind_some, zw_of (x := (k : Int) + 2) (by omega) (by omega), e_at rm hpt hn (k + 2) (by omega), Option.bind_some]
          exact q 1 _ _ _ (j3 (by omega))
      · rw [if_neg h45, if_neg (show ¬ (tA μ pt (k + 1) = 45 ∧ k + 2 < en) by omega)]
        unfold f_Mo_inItems_88 f_Mo_inItems_89
        rw [zck_k s_233, Option.bind_some, e_at rm hpt hn k rfl, Option.bind_some, if_pos rfl]
        exact q 0 _ _ _ j1
theorem e_inItems (rm : Rm ρ) {pt : Nat} (hpt : pt < 22) (hn : μ 239 pt ≤ 21) {i ae : Nat} (hi : i < 21) (hae : μ 242 (21 * pt + i) = ae) (ha0 : 0 < ae) (ha1 : ae ≤ 21) (c : Int) : f_Mo_inItems 233 pt i c (SH L, ρ, μ) = some (inI (tA μ pt) i ae c, (SH L, ρ, μ)) := by
  unfold f_Mo_inItems inI f_Mo_inItems_18 f_Mo_inItems_34
  rw [zck_k s_233, Option.bind_some, zw_of (x := (i : Int) + 1) (by omega) (by omega), zw_of (x := (i : Int) + 2) (by omega) (by omega), zw_of (x := 21 * (pt : Int)) (by omega) (by omega), zw_of (x := 21 * (pt : Int) + i) (by omega) (by omega), e_at rm hpt hn (i + 1) (by omega), Option.bind_some]
  by_cases h : tA μ pt (i + 1) = 94
  · rw [if_pos h, if_pos h, if_neg (by decide)]
    have e := e_inL (L := L) rm hpt hn (en := ae - 1) (by omega) c 1 25 100000 (i + 2) 0 (by omega) (by omega) (by omega)
    rw [show ((i + 2 : Nat) : Int) = (i : Int) + 2 by omega] at e
    rw [zgR_k s_233 (m_11 rm) (by decide), Option.bind_some, zaI_k s_242 (by omega) (by omega), Option.bind_some, show (21 * (pt : Int) + i).toNat = 21 * pt + i by omega, hae, zw_of (x := (ae : Int) - 1) (by omega) (by omega), show (ae : Int) - 1 = ((ae - 1 : Nat) : Int) by omega, e]
  · rw [if_neg h, if_neg h, if_pos rfl]
    have e := e_inL (L := L) rm hpt hn (en := ae - 1) (by omega) c 0 25 100000 (i + 1) 0 (by omega) (by omega) (by omega)
    rw [show ((i + 1 : Nat) : Int) = (i : Int) + 1 by omega] at e
    rw [zgR_k s_233 (m_11 rm) (by decide), Option.bind_some, zaI_k s_242 (by omega) (by omega), Option.bind_some, show (21 * (pt : Int) + i).toNat = 21 * pt + i by omega, hae, zw_of (x := (ae : Int) - 1) (by omega) (by omega), show (ae : Int) - 1 = ((ae - 1 : Nat) : Int) by omega, e]
theorem e_stepM (h0 : 0 ≤ st) (h3 : st ≤ 300) : f_Mo_step 233 (SH L, ρ, MM μ st ov mt nc G C) = if st = μ 233 0 then some (0, (SH L, ρ, MM μ st 1 mt nc G C)) else some (1, (SH L, ρ, MM μ (st + 1) ov mt nc G C)) := by
  unfold f_Mo_step
  rw [zgI_k s_233, Option.bind_some, zgI_k s_233, Option.bind_some, MM_21, MM_0]
  by_cases hb : st = μ 233 0
  · rw [if_pos hb, if_pos hb, zpZ_k s_233 (Or.inr rfl), Option.bind_some, MM_u22]
  · rw [if_neg hb, if_neg hb, Option.bind_some, zw_of (by omega) (by omega), zpI_k s_233, Option.bind_some, MM_u21]
end MRun
