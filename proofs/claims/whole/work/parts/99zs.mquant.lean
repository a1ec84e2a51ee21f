/-! The model's quantifiers -/
def mqU (ν : Nat → Nat → Int) (pt a b lv : Nat) (q : Int) (e : Nat) (pres : Int) : Nat → Nat → Int := z_up (z_up (z_up (z_up ν 241 (21 * pt + a) q) 242 (21 * pt + a) (b : Int)) 243 (21 * pt + a) (e : Int)) 251 lv pres
section Mqn
variable {L : Nat} {ρ : Nat → Nat → Nat}
theorem m_q163 (rm : Rm ρ) {pt a b lv e : Nat} (hpt : pt < 22) (ha : a < 21) (hlv : lv < 4) {ν : Nat → Nat → Int} {em q v : Int} (hp : ν 251 lv = 0 ∨ ν 251 lv = 1) : f_Mo_quantified_163 233 (b : Int) em (lv : Int) q (e : Int) ((21 * pt + a : Nat) : Int) 241 ((21 * pt + a : Nat) : Int) v (SH L, ρ, ν) = some ((e : Int), (SH L, ρ, mqU ν pt a b lv v e (if ν 251 lv = 0 then 0 else if em ≠ 0 ∨ q = 1 ∨ q = 3 then 1 else 0))) := by
  have c0 : (21 * pt + a : Nat) < 462 := by omega
  unfold f_Mo_quantified_163 f_Mo_quantified_214 mqU
  rw [zsI_k s_241 (by omega) (by omega), Option.bind_some, Int.toNat_natCast, zgR_k s_233 (m_11 rm) (by decide), Option.bind_some, zsI_k s_242 (by omega) (by omega), Option.bind_some, Int.toNat_natCast, zgR_k s_233 (m_12 rm) (by decide), Option.bind_some, zsI_k s_243 (by omega) (by omega), Option.bind_some, Int.toNat_natCast, zgR_k s_233 (m_20 rm) (by decide), Option.bind_some, Option.bind_some, zaI_k s_251 (by omega) (by omega), Option.bind_some, Int.toNat_natCast, z_up_ne (by decide), z_up_ne (by decide), z_up_ne (by decide)]
  by_cases g : ν 251 lv = 0
  · rw [if_pos g, if_pos g, zsI_k s_251 (by omega) (by omega), Option.bind_some, Int.toNat_natCast]
    rfl
  rw [if_neg g, if_neg g]
  by_cases g1 : em = 0
  · rw [if_pos g1]
    by_cases g2 : q = 1
    · rw [if_pos g2, if_pos (Or.inr (Or.inl g2)), zsI_k s_251 (by omega) (by omega), Option.bind_some, Int.toNat_natCast]
      rfl
    rw [if_neg g2]
    by_cases g3 : q = 3
    · rw [if_pos g3, if_pos (Or.inr (Or.inr g3)), zsI_k s_251 (by omega) (by omega), Option.bind_some, Int.toNat_natCast]
      rfl
    · rw [if_neg g3, if_neg (by omega), zsI_k s_251 (by omega) (by omega), Option.bind_some, Int.toNat_natCast]
      rfl
  · rw [if_neg g1, if_pos (Or.inl g1), zsI_k s_251 (by omega) (by omega), Option.bind_some, Int.toNat_natCast]
    rfl
theorem m_q100 (rm : Rm ρ) {pt a b lv e n : Nat} (hpt : pt < 22) (ha : a < 21) (hlv : lv < 4) {ν : Nat → Nat → Int} (hn : ν 239 pt = n) (h20 : n ≤ 20) {em q lz : Int} (hp : ν 251 lv = 0 ∨ ν 251 lv = 1) (hq : q = 0 ∨ q = 1 ∨ q = 2 ∨ q = 3) (hl : lz = 0 ∨ lz = 1) : f_Mo_quantified_100 233 (pt : Int) (a : Int) (b : Int) em (lv : Int) q lz (e : Int) (SH L, ρ, ν) = if (em ≠ 0 ∧ (q = 1 ∨ q = 2)) ∨ (isR (tA ν pt) a = 1 ∧ 0 < q) then some (-1, (SH L, ρ, ν)) else some ((e : Int), (SH L, ρ, mqU ν pt a b lv (if lz = 0 then q else q + 4) e (if ν 251 lv = 0 then 0 else if em ≠ 0 ∨ q = 1 ∨ q = 3 then 1 else 0))) := by
  have r01 : isR (tA ν pt) a = 0 ∨ isR (tA ν pt) a = 1 := by
    unfold isR
    split
    · exact Or.inr rfl
    · exact Or.inl rfl
  have e135 : f_Mo_quantified_135 233 (pt : Int) (a : Int) (b : Int) em (lv : Int) q (e : Int) lz (SH L, ρ, ν) = some ((e : Int), (SH L, ρ, mqU ν pt a b lv (if lz = 0 then q else q + 4) e (if ν 251 lv = 0 then 0 else if em ≠ 0 ∨ q = 1 ∨ q = 3 then 1 else 0))) := by
    unfold f_Mo_quantified_135
    rw [zgR_k s_233 (m_10 rm) (by decide), Option.bind_some, zw_of (x := 21 * (pt : Int)) (by omega) (by omega), zw_of (x := 21 * (pt : Int) + (a : Int)) (by omega) (by omega), show 21 * (pt : Int) + (a : Int) = ((21 * pt + a : Nat) : Int) by omega, zw_of (x := q + 4) (by omega) (by omega)]
    obtain hl | hl := hl
    · rw [if_pos hl, if_pos hl]
      exact m_q163 rm hpt ha hlv hp
    · rw [if_neg (by omega), if_neg (by omega)]
      exact m_q163 rm hpt ha hlv hp
  have e119 : f_Mo_quantified_119 233 (pt : Int) (a : Int) (b : Int) em (lv : Int) q (e : Int) lz (SH L, ρ, ν) = if isR (tA ν pt) a = 1 ∧ 0 < q then some (-1, (SH L, ρ, ν)) else some ((e : Int), (SH L, ρ, mqU ν pt a b lv (if lz = 0 then q else q + 4) e (if ν 251 lv = 0 then 0 else if em ≠ 0 ∨ q = 1 ∨ q = 3 then 1 else 0))) := by
    unfold f_Mo_quantified_119
    rw [zck_k s_233, Option.bind_some, e_isRef rm hpt (by omega) a (by omega), Option.bind_some]
    dsimp only
    rw [e135]
    obtain h | h := r01
    · rw [if_pos h, if_neg (show ¬ (isR (tA ν pt) a = 1 ∧ 0 < q) by omega)]
    · rw [if_neg (by omega)]
      by_cases g : q ≤ 0
      · rw [if_pos g, if_neg (show ¬ (isR (tA ν pt) a = 1 ∧ 0 < q) by omega)]
      · rw [if_neg g, if_pos (show isR (tA ν pt) a = 1 ∧ 0 < q from ⟨h, by omega⟩)]
  unfold f_Mo_quantified_100
  rw [e119]
  by_cases g1 : em = 0
  · rw [if_pos g1]
    by_cases g2 : isR (tA ν pt) a = 1 ∧ 0 < q
    · rw [if_pos g2, if_pos (Or.inr g2)]
    · rw [if_neg g2, if_neg (show ¬ ((em ≠ 0 ∧ (q = 1 ∨ q = 2)) ∨ (isR (tA ν pt) a = 1 ∧ 0 < q)) by omega)]
  · rw [if_neg g1]
    by_cases g2 : q = 1
    · rw [if_pos g2, if_pos (Or.inl ⟨g1, Or.inl g2⟩)]
    rw [if_neg g2]
    by_cases g3 : q = 2
    · rw [if_pos g3, if_pos (Or.inl ⟨g1, Or.inr g3⟩)]
    rw [if_neg g3]
    by_cases g4 : isR (tA ν pt) a = 1 ∧ 0 < q
    · rw [if_pos g4, if_pos (Or.inr g4)]
    · rw [if_neg g4, if_neg (show ¬ ((em ≠ 0 ∧ (q = 1 ∨ q = 2)) ∨ (isR (tA ν pt) a = 1 ∧ 0 < q)) by omega)]
theorem m_quant (rm : Rm ρ) {pt a b lv n : Nat} (hpt : pt < 22) (ha : a < 21) (hb : b ≤ 20) (hlv : lv < 4) {ν : Nat → Nat → Int} (hn : ν 239 pt = n) (h20 : n ≤ 20) {em : Int} (hp : ν 251 lv = 0 ∨ ν 251 lv = 1) : f_Mo_quantified 233 (pt : Int) (a : Int) (b : Int) em (lv : Int) (SH L, ρ, ν) = if (em ≠ 0 ∧ (qN (tA ν pt) b = 1 ∨ qN (tA ν pt) b = 2)) ∨ (isR (tA ν pt) a = 1 ∧ 0 < qN (tA ν pt) b) then some (-1, (SH L, ρ, ν)) else some ((qE (tA ν pt) b : Int), (SH L, ρ, mqU ν pt a b lv (if qL (tA ν pt) b = 0 then qN (tA ν pt) b else qN (tA ν pt) b + 4) (qE (tA ν pt) b) (if ν 251 lv = 0 then 0 else if em ≠ 0 ∨ qN (tA ν pt) b = 1 ∨ qN (tA ν pt) b = 3 then 1 else 0))) := by
  have hn21 : ν 239 pt ≤ 21 := by omega
  -- a quantifier is there
  have pos : ∀ q : Int, (q = 1 ∨ q = 2 ∨ q = 3) → qN (tA ν pt) b = q → f_Mo_quantified_46 233 (pt : Int) (a : Int) (b : Int) em (lv : Int) q (SH L, ρ, ν) = if (em ≠ 0 ∧ (qN (tA ν pt) b = 1 ∨ qN (tA ν pt) b = 2)) ∨ (isR (tA ν pt) a = 1 ∧ 0 < qN (tA ν pt) b) then some (-1, (SH L, ρ, ν)) else some ((qE (tA ν pt) b : Int), (SH L, ρ, mqU ν pt a b lv (if qL (tA ν pt) b = 0 then qN (tA ν pt) b else qN (tA ν pt) b + 4) (qE (tA ν pt) b) (if ν 251 lv = 0 then 0 else if em ≠ 0 ∨ qN (tA ν pt) b = 1 ∨ qN (tA ν pt) b = 3 then 1 else 0))) := by
    intro q hq eq
    unfold f_Mo_quantified_46 f_Mo_quantified_60 f_Mo_quantified_83 f_Mo_quantified_84 qE qL
    rw [eq, if_neg (show ¬ q ≤ 0 by omega), if_neg (show ¬ q ≤ 0 by omega), zck_k s_233, Option.bind_some, zw_of (x := (b : Int) + 1) (by omega) (by omega), e_at rm hpt hn21 (b + 1) (by omega), Option.bind_some]
    dsimp only
    rw [if_neg (show ¬ q = 0 by omega), if_neg (show ¬ q = 0 by omega), if_pos (show (0 : Int) = 0 from rfl), if_neg (show ¬ (1 : Int) = 0 by decide), zw_of (x := (b : Int) + 1 + 1) (by omega) (by omega)]
    by_cases g : tA ν pt (b + 1) = 63
    · rw [if_pos g, if_pos g, if_pos g, show (b : Int) + 1 + 1 = ((b + 2 : Nat) : Int) by omega]
      exact m_q100 rm hpt ha hlv hn h20 hp (by omega) (Or.inr rfl)
    · rw [if_neg g, if_neg g, if_neg g, show (b : Int) + 1 = ((b + 1 : Nat) : Int) by omega]
      exact m_q100 rm hpt ha hlv hn h20 hp (by omega) (Or.inl rfl)
  unfold f_Mo_quantified
  rw [zck_k s_233, Option.bind_some, e_at rm hpt hn21 b rfl, Option.bind_some]
  dsimp only
  by_cases g1 : tA ν pt b = 42
  · rw [if_pos g1]
    exact pos 1 (Or.inl rfl) (if_pos g1)
  rw [if_neg g1, zck_k s_233, Option.bind_some, e_at rm hpt hn21 b rfl, Option.bind_some]
  dsimp only
  by_cases g2 : tA ν pt b = 43
  · rw [if_pos g2]
    exact pos 2 (Or.inr (Or.inl rfl)) (by unfold qN; rw [if_neg g1, if_pos g2])
  rw [if_neg g2, zck_k s_233, Option.bind_some, e_at rm hpt hn21 b rfl, Option.bind_some]
  dsimp only
  by_cases g3 : tA ν pt b = 63
  · rw [if_pos g3]
    exact pos 3 (Or.inr (Or.inr rfl)) (by unfold qN; rw [if_neg g1, if_neg g2, if_pos g3])
  rw [if_neg g3]
  have q0 : qN (tA ν pt) b = 0 := by unfold qN; rw [if_neg g1, if_neg g2, if_neg g3]
  have l0 : qL (tA ν pt) b = 0 := by unfold qL; rw [if_pos q0]
  have e0 : qE (tA ν pt) b = b := by unfold qE; rw [if_pos q0]
  rw [q0, l0, e0]
  unfold f_Mo_quantified_46 f_Mo_quantified_60 f_Mo_quantified_83 f_Mo_quantified_84
  rw [if_pos (Int.le_refl 0), if_pos (Int.le_refl 0), if_pos (show (0 : Int) = 0 from rfl)]
  exact m_q100 rm hpt ha hlv hn h20 hp (Or.inl rfl) (Or.inl rfl)
end Mqn
