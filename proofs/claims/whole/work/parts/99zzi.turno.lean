/-! One turn: a group opens -/
theorem Src.of {μ μ' : Nat → Nat → Int} {n : Nat} {c : Nat → Int} (h : Src μ n c) (h1 : μ' 3 1 = μ 3 1) (h4 : ∀ j, μ' 4 j = μ 4 j) : Src μ' n c := ⟨h1.trans h.1, h.2.1, fun j hj => ⟨(h4 j).trans (h.2.2.1 j hj).1, (h.2.2.1 j hj).2⟩, h.2.2.2⟩
theorem FrQ.ta {pt : Nat} {ν ν' : Nat → Nat → Int} (h : FrQ pt ν ν') : tA ν' pt = tA ν pt := by
  funext i
  unfold tA
  rw [h.1 239 pt (by omega), h.1 240 _ (by omega)]
/-- what a turn comes to -/
def TRs (L : Nat) (ρ : Nat → Nat → Nat) (p pt n : Nat) (en : Bool) (c : Nat → Int) (μ ν : Nat → Nat → Int) (i lv gr : Nat) (μ' : Nat → Nat → Int) : Prop := FrP p μ μ' ∧
  ((∃ (ν' : Nat → Nat → Int) (g' : PG) (sc' i' lv' gr' : Nat) (E' : Nat → Nat), i < i' ∧ FrQ pt ν ν' ∧ (∀ N, f_Mo_parse_71 (N + 1) 233 (pt : Int) (enI en) (n : Int) (lv : Int) (gr : Int) (i : Int) (SH L, ρ, ν) = f_Mo_parse_71 N 233 (pt : Int) (enI en) (n : Int) (lv' : Int) (gr' : Int) (i' : Int) (SH L, ρ, ν')) ∧ PHp p pt n en c μ' ν' g' sc' i' lv' gr' E') ∨
   (PBd p μ' ∧ ∃ ν', FrQ pt ν ν' ∧ ∀ N, f_Mo_parse_71 (N + 2) 233 (pt : Int) (enI en) (n : Int) (lv : Int) (gr : Int) (i : Int) (SH L, ρ, ν) = some (0, (SH L, ρ, ν'))))
section Tro
variable {L : Nat} {ρ : Nat → Nat → Nat} {p pt n sc i lv gr : Nat} {en : Bool} {c : Nat → Int} {μ ν : Nat → Nat → Int} {g : PG} {E : Nat → Nat}
theorem rn_0 (rc : Rc ρ) (h : PHp p pt n en c μ ν g sc i lv gr E) (hi : i < n) : f_Pr_readNext 3 p (SH L, ρ, μ) = if c i = 124 then f_Pr_endBranch 3 p (SH L, ρ, z_up μ 3 2 ((i + 1 : Nat) : Int)) else if c i = 40 then f_Pr_openGroup 3 p (SH L, ρ, z_up μ 3 2 ((i + 1 : Nat) : Int)) else if c i = 41 then f_Pr_closeGroup 3 p (SH L, ρ, z_up μ 3 2 ((i + 1 : Nat) : Int)) else ((z_gI (SH L, ρ, z_up μ 3 2 ((i + 1 : Nat) : Int)) 4 p 5).bind fun v6 => (f_Pr_readAtom 3 (c i) p (SH L, ρ, z_up μ 3 2 ((i + 1 : Nat) : Int))).bind fun q8 => (z_ck q8.2 5 3).bind fun n9 => (f_Pr_readQuantifier 3 v6 q8.1 p q8.2).bind fun h10 => some h10) := by
  obtain ⟨⟨c1, c2, c3, c4⟩, ⟨d1, d2, d3, d4, d5⟩, -⟩ := h
  have n20 := c1.2.1
  unfold f_Pr_readNext
  rw [zgR_k s_3 rc.2.1.1 (by decide), Option.bind_some, zgI_k s_3, Option.bind_some, d1, zaI_k s_4 (by omega) (by omega), Option.bind_some, Int.toNat_natCast, (c1.2.2.1 i hi).1, Option.bind_some, zw_of (by omega) (by omega), zpI_k s_3, Option.bind_some, show (i : Int) + 1 = ((i + 1 : Nat) : Int) by omega, zck_k s_3, Option.bind_some, Option.bind_some, Option.bind_some, ob_id, ob_id, ob_id]
  rfl
theorem mt_00 (rm : Rm ρ) (hpt : pt < 22) (h : PHp p pt n en c μ ν g sc i lv gr E) (hi : i < n) : f_Mo_at 233 (pt : Int) (i : Int) (SH L, ρ, ν) = some (c i, (SH L, ρ, ν)) := by
  obtain ⟨⟨c1, c2, c3, c4⟩, -⟩ := h
  have n20 := c1.2.1
  rw [e_at rm hpt (by omega) i rfl, c2]
theorem m_openLv (rm : Rm ρ) {l : Nat} (hl : l < 4) {x : Int} : f_Mo_openLevel 233 (l : Int) x (SH L, ρ, ν) = some (SH L, ρ, z_up (z_up (z_up (z_up ν 248 l x) 249 l x) 250 l 0) 251 l 1) := by
  unfold f_Mo_openLevel
  rw [zgR_k s_233 (m_17 rm) (by decide), Option.bind_some, zsI_k s_248 (by omega) (by omega), Option.bind_some, Int.toNat_natCast, zgR_k s_233 (m_18 rm) (by decide), Option.bind_some, zsI_k s_249 (by omega) (by omega), Option.bind_some, Int.toNat_natCast, zgR_k s_233 (m_19 rm) (by decide), Option.bind_some, zsI_k s_250 (by omega) (by omega), Option.bind_some, Int.toNat_natCast, zgR_k s_233 (m_20 rm) (by decide), Option.bind_some, zsI_k s_251 (by omega) (by omega), Option.bind_some, Int.toNat_natCast]
  rfl
theorem m_note (rm : Rm ρ) (hpt : pt < 22) {l a : Nat} (hl : l < 4) (ha : a ≤ 20) (h0 : ν 250 l = 0 ∨ ν 250 l = 1) (h1 : ν 251 l = 0 ∨ ν 251 l = 1) : f_Mo_note 233 (pt : Int) (a : Int) (l : Int) (SH L, ρ, ν) = some (SH L, ρ, z_up (z_up (z_up ν 245 (21 * pt + a) (ν 248 l)) 250 l (if ν 250 l = 0 ∧ ν 251 l = 0 then 0 else 1)) 251 l 1) := by
  unfold f_Mo_note f_Mo_note_40 f_Mo_note_45
  rw [zgR_k s_233 (m_14 rm) (by decide), Option.bind_some, zgR_k s_233 (m_17 rm) (by decide), Option.bind_some, zaI_k s_248 (by omega) (by omega), Option.bind_some, Int.toNat_natCast, zw_of (x := 21 * (pt : Int)) (by omega) (by omega), zw_of (by omega) (by omega), zsI_k s_245 (by omega) (by omega), Option.bind_some, show (21 * (pt : Int) + (a : Int)).toNat = 21 * pt + a by omega, zgR_k s_233 (m_19 rm) (by decide), Option.bind_some, Option.bind_some, zaI_k s_250 (by omega) (by omega), Option.bind_some, Int.toNat_natCast, z_up_ne (by decide)]
  have fin : ∀ x : Int, x = 0 ∨ x = 1 → ((z_sI (SH L, ρ, z_up ν 245 (21 * pt + a) (ν 248 l)) 22 250 (l : Int) (x % 2)).bind fun h1 => (z_gR h1 9 233 20).bind fun v2 => (z_sI h1 22 v2 (l : Int) (1 % 2)).bind fun h3 => some h3) = some (SH L, ρ, z_up (z_up (z_up ν 245 (21 * pt + a) (ν 248 l)) 250 l x) 251 l 1) := by
    intro x hx
    have e2 : x % 2 = x := by omega
    rw [e2, zsI_k s_250 (by omega) (by omega), Option.bind_some, Int.toNat_natCast, zgR_k s_233 (m_20 rm) (by decide), Option.bind_some, zsI_k s_251 (by omega) (by omega), Option.bind_some, Int.toNat_natCast]
    rfl
  by_cases g1 : ν 250 l = 0
  · rw [if_pos g1, zgR_k s_233 (m_20 rm) (by decide), Option.bind_some, zaI_k s_251 (by omega) (by omega), Option.bind_some, Int.toNat_natCast, z_up_ne (by decide)]
    by_cases g2 : ν 251 l = 0
    · rw [if_pos g2, if_pos ⟨g1, g2⟩]
      exact fin 0 (Or.inl rfl)
    · rw [if_neg g2, if_neg (fun z => g2 z.2)]
      exact fin 1 (Or.inr rfl)
  · rw [if_neg g1, if_neg (fun z => g1 z.1)]
    exact fin 1 (Or.inr rfl)
end Tro
