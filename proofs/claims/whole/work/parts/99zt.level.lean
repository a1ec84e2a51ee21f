/-! Levels of the class's parser -/
/-- the ended branches of a level, by addresses -/
def Chn (p E Z : Nat) (μ : Nat → Nat → Int) (as : Nat → Nat) : Prop := ∀ m, m < E → as m < 41 ∧ (as m : Int) + μ (p + 3) (as m) = (as (m + 1) : Nat) ∧ 1 ≤ as (m + 1) ∧ as (m + 1) ≤ 41
section Lvl
variable {L : Nat} {ρ : Nat → Nat → Nat} {p : Nat}
theorem e_joinL (hp : ptS L p) (pr : ptR ρ p) {E Z : Nat} (hE : E ≤ 41) (hZ : Z ≤ 41) {as : Nat → Nat} : ∀ (q N m : Nat) (μ : Nat → Nat → Int), m + q = E → q < N → μ p 5 = Z → Chn p E Z μ as → ∃ μ', f_Pt_joinBranches_5 N p (E : Int) (as m : Int) (m : Int) (SH L, ρ, μ) = some (SH L, ρ, μ') ∧ (∀ c j, c ≠ p + 2 → μ' c j = μ c j) ∧ (∀ j, (∃ x, m ≤ x ∧ x < E ∧ j + 1 = as (x + 1)) → μ' (p + 2) j = (Z : Int) - j) ∧ ∀ j, (¬ ∃ x, m ≤ x ∧ x < E ∧ j + 1 = as (x + 1)) → μ' (p + 2) j = μ (p + 2) j := by
  intro q
  induction q with
  | zero =>
    intro N m μ h1 h2 h3 h4
    obtain ⟨N, rfl⟩ : ∃ k, N = k + 1 := ⟨N - 1, by omega⟩
    refine ⟨μ, ?_, fun _ _ _ => rfl, fun j ⟨x, g1, g2, _⟩ => by omega, fun _ _ => rfl⟩
    rw [f_Pt_joinBranches_5]
    show (if _ then _ else _) = _
    rw [if_pos (by omega)]
  | succ q ih =>
    intro N m μ h1 h2 h3 h4
    obtain ⟨N, rfl⟩ : ∃ k, N = k + 1 := ⟨N - 1, by omega⟩
    obtain ⟨c1, c2, c3, c4⟩ := h4 m (by omega)
    have ch : Chn p E Z (z_up μ (p + 2) (as (m + 1) - 1) ((Z : Int) - (as (m + 1) - 1 : Nat))) as := by
      intro x hx
      rw [z_up_ne (by omega)]
      exact h4 x hx
    obtain ⟨μ', i1, i2, i3, i4⟩ := ih N (m + 1) (z_up μ (p + 2) (as (m + 1) - 1) ((Z : Int) - (as (m + 1) - 1 : Nat))) (by omega) (by omega) ((z_up_ne (by omega)).trans h3) ch
    refine ⟨μ', ?_, fun c j g => (i2 c j g).trans (z_up_ne g), fun j ⟨x, g1, g2, g3⟩ => ?_, fun j g => ?_⟩
    · rw [f_Pt_joinBranches_5]
      show (if _ then _ else _) = _
      rw [if_neg (by omega), zgR_k hp.1 pr.2.2.1 (by omega), Option.bind_some, zaI_k hp.2.2.2.1 (by omega) (by omega), Option.bind_some, Int.toNat_natCast, zw_of (x := (as m : Int) + μ (p + 3) (as m)) (by omega) (by omega), c2, zgR_k hp.1 pr.2.1 (by omega), Option.bind_some, zgI_k hp.1, Option.bind_some, h3, zw_of (x := ((as (m + 1) : Nat) : Int) - 1) (by omega) (by omega), zw_of (x := (Z : Int) - (((as (m + 1) : Nat) : Int) - 1)) (by omega) (by omega), zsI_k hp.2.2.1 (by omega) (by omega), Option.bind_some, show (((as (m + 1) : Nat) : Int) - 1).toNat = as (m + 1) - 1 by omega, zw_of (by omega) (by omega), show (Z : Int) - (((as (m + 1) : Nat) : Int) - 1) = (Z : Int) - ((as (m + 1) - 1 : Nat) : Int) by omega]
      rw [show ((m + 1 : Nat) : Int) = (m : Int) + 1 by omega] at i1
      exact i1
    · by_cases hx : ∃ x, m + 1 ≤ x ∧ x < E ∧ j + 1 = as (x + 1)
      · exact i3 j hx
      · rw [i4 j hx]
        have : x = m := by
          by_cases e : x = m
          · exact e
          · exact absurd ⟨x, by omega, g2, g3⟩ hx
        subst this
        rw [show as (x + 1) - 1 = j by omega, z_up_eq]
    · rw [i4 j (fun ⟨x, g1, g2, g3⟩ => g ⟨x, by omega, g2, g3⟩), z_up_nj (fun e => g ⟨m, Nat.le_refl _, by omega, by omega⟩)]
theorem e_close (rc : Rc ρ) (hp : ptS L p) (pr : ptR ρ p) (hp6 : 36 ≤ p) {E Z lv : Nat} (hE : E ≤ 41) (hZ : Z ≤ 41) (hlv : lv < 4) {as : Nat → Nat} {μ : Nat → Nat → Int} (h6 : μ 3 6 = lv) (h5 : μ p 5 = Z) (hb : μ 6 lv = as 0) (he : μ 8 lv = E) (hc : Chn p E Z μ as) : ∃ (z : Int) (μ' : Nat → Nat → Int), f_Pr_closeLevel 3 p (SH L, ρ, μ) = some (z, (SH L, ρ, μ')) ∧ z = (if μ 10 lv = 0 ∧ μ 9 lv = 0 then 0 else 1) ∧ (∀ c j, c ≠ p + 2 → μ' c j = μ c j) ∧ (∀ j, (∃ x, x < E ∧ j + 1 = as (x + 1)) → μ' (p + 2) j = (Z : Int) - j) ∧ ∀ j, (¬ ∃ x, x < E ∧ j + 1 = as (x + 1)) → μ' (p + 2) j = μ (p + 2) j := by
  obtain ⟨μ', i1, i2, i3, i4⟩ := e_joinL (L := L) (ρ := ρ) hp pr hE hZ (as := as) E 100000 0 μ (by omega) (by omega) h5 hc
  have i1' : f_Pt_joinBranches p (as 0 : Int) (E : Int) (SH L, ρ, μ) = some (SH L, ρ, μ') := i1
  refine ⟨if μ 10 lv = 0 ∧ μ 9 lv = 0 then 0 else 1, μ', ?_, rfl, i2, fun j ⟨x, g1, g2⟩ => i3 j ⟨x, Nat.zero_le _, g1, g2⟩, fun j g => i4 j (fun ⟨x, _, g1, g2⟩ => g ⟨x, g1, g2⟩)⟩
  unfold f_Pr_closeLevel f_Pr_closeLevel_46
  rw [zgR_k s_3 rc.2.1.2.2.1 (by decide), Option.bind_some, zgI_k s_3, Option.bind_some, h6, zaI_k s_6 (by omega) (by omega), Option.bind_some, Int.toNat_natCast, hb, zgR_k s_3 rc.2.1.2.2.2.2.1 (by decide), Option.bind_some, Option.bind_some, zaI_k s_8 (by omega) (by omega), Option.bind_some, Int.toNat_natCast, he, zck_k hp.1, Option.bind_some, i1', Option.bind_some, zgR_k s_3 rc.2.1.2.2.2.2.2.2 (by decide), Option.bind_some, zgI_k s_3, Option.bind_some, i2 3 6 (by omega), h6, zaI_k s_10 (by omega) (by omega), Option.bind_some, Int.toNat_natCast, i2 10 lv (by omega)]
  by_cases g1 : μ 10 lv = 0
  · rw [if_pos g1, zgR_k s_3 rc.2.1.2.2.2.2.2.1 (by decide), Option.bind_some, Option.bind_some, zaI_k s_9 (by omega) (by omega), Option.bind_some, Int.toNat_natCast, i2 9 lv (by omega)]
    by_cases g2 : μ 9 lv = 0
    · rw [if_pos g2, if_pos ⟨g1, g2⟩]
    · rw [if_neg g2, if_neg (fun z => g2 z.2)]
  · rw [if_neg g1, if_neg (fun z => g1 z.1)]
theorem e_openLv (rc : Rc ρ) {lv : Nat} (hlv : lv < 4) {μ : Nat → Nat → Int} (h6 : μ 3 6 = lv) (x : Int) : f_Pr_openLevel 3 x (SH L, ρ, μ) = some (SH L, ρ, z_up (z_up (z_up (z_up (z_up μ 6 lv x) 7 lv x) 8 lv 0) 9 lv 1) 10 lv 0) := by
  unfold f_Pr_openLevel
  rw [zgR_k s_3 rc.2.1.2.2.1 (by decide), Option.bind_some, zgI_k s_3, Option.bind_some, h6, zsI_k s_6 (by omega) (by omega), Option.bind_some, Int.toNat_natCast, zgR_k s_3 rc.2.1.2.2.2.1 (by decide), Option.bind_some, zgI_k s_3, Option.bind_some, z_up_ne (by decide), h6, zsI_k s_7 (by omega) (by omega), Option.bind_some, Int.toNat_natCast, zgR_k s_3 rc.2.1.2.2.2.2.1 (by decide), Option.bind_some, zgI_k s_3, Option.bind_some, z_up_ne (by decide), z_up_ne (by decide), h6, zsI_k s_8 (by omega) (by omega), Option.bind_some, Int.toNat_natCast, zgR_k s_3 rc.2.1.2.2.2.2.2.1 (by decide), Option.bind_some, zgI_k s_3, Option.bind_some, z_up_ne (by decide), z_up_ne (by decide), z_up_ne (by decide), h6, zsI_k s_9 (by omega) (by omega), Option.bind_some, Int.toNat_natCast, zgR_k s_3 rc.2.1.2.2.2.2.2.2 (by decide), Option.bind_some, zgI_k s_3, Option.bind_some, z_up_ne (by decide), z_up_ne (by decide), z_up_ne (by decide), z_up_ne (by decide), h6, zsI_k s_10 (by omega) (by omega), Option.bind_some, Int.toNat_natCast]
  rfl
/-- a branch ends -/
theorem e_endBr (rc : Rc ρ) (hp : ptS L p) (pr : ptR ρ p) (hp6 : 36 ≤ p) {lv a Z E : Nat} (hlv : lv < 4) (ha : a ≤ Z) (hZ : Z + 2 ≤ 41) (hE : E < 41) {μ : Nat → Nat → Int} (h6 : μ 3 6 = lv) (h5 : μ p 5 = Z) (hb : μ 7 lv = a) (he : μ 8 lv = E) : ∃ μ1 μ2, InsH p a Z 6 1 ((Z : Int) - a + 2) μ μ1 ∧ InsH p (Z + 1) (Z + 1) 7 0 0 μ1 μ2 ∧ f_Pr_endBranch 3 p (SH L, ρ, μ) = some (SH L, ρ, z_up (z_up (z_up (z_up μ2 8 lv ((E + 1 : Nat) : Int)) 7 lv ((Z + 2 : Nat) : Int)) 10 lv (if μ 10 lv = 0 ∧ μ 9 lv = 0 then 0 else 1)) 9 lv 1) := by
  obtain ⟨μ1, i1, i2⟩ := e_insert (L := L) (ρ := ρ) hp pr (a := a) (op := 6) (f := 1) (s := (Z : Int) - a + 2) (by omega) ha h5
  obtain ⟨μ2, j1, j2⟩ := e_append (L := L) (ρ := ρ) hp pr (Z := Z + 1) (op := 7) (f := 0) (μ := μ1) (by omega) i2.2.2.1
  have k : ∀ c j, c < p ∨ p + 3 < c → μ2 c j = μ c j := fun c j h => (j2.1 c j h).trans (i2.1 c j h)
  refine ⟨μ1, μ2, i2, j2, ?_⟩
  have e1 : f_Pt_endBranch p (a : Int) (SH L, ρ, μ) = some (SH L, ρ, μ2) := by
    unfold f_Pt_endBranch
    rw [zgI_k hp.1, Option.bind_some, h5, zck_k hp.1, Option.bind_some, zw_of (x := (Z : Int) - a) (by omega) (by omega), zw_of (x := (Z : Int) - a + 2) (by omega) (by omega), i1, Option.bind_some, zck_k hp.1, Option.bind_some, j1, Option.bind_some]
  unfold f_Pr_endBranch f_Pr_endBranch_71 f_Pr_endBranch_76
  rw [zgR_k s_3 rc.2.1.2.2.2.1 (by decide), Option.bind_some, zgI_k s_3, Option.bind_some, h6, zaI_k s_7 (by omega) (by omega), Option.bind_some, Int.toNat_natCast, hb, zck_k hp.1, Option.bind_some, e1, Option.bind_some, zgR_k s_3 rc.2.1.2.2.2.2.1 (by decide), Option.bind_some, zgI_k s_3, Option.bind_some, k 3 6 (by omega), h6, zaI_k s_8 (by omega) (by omega), Option.bind_some, Int.toNat_natCast, k 8 lv (by omega), he, zw_of (x := (E : Int) + 1) (by omega) (by omega), zsI_k s_8 (by omega) (by omega), Option.bind_some, Int.toNat_natCast, zgR_k s_3 rc.2.1.2.2.2.1 (by decide), Option.bind_some, zgI_k s_3, Option.bind_some, z_up_ne (by decide), k 3 6 (by omega), h6, zgI_k hp.1, Option.bind_some, z_up_ne (by omega), j2.2.2.1, zsI_k s_7 (by omega) (by omega), Option.bind_some, Int.toNat_natCast, zgR_k s_3 rc.2.1.2.2.2.2.2.2 (by decide), Option.bind_some, zgI_k s_3, Option.bind_some, z_up_ne (by decide), z_up_ne (by decide), k 3 6 (by omega), h6, Option.bind_some, Option.bind_some, zaI_k s_10 (by omega) (by omega), Option.bind_some, Int.toNat_natCast, z_up_ne (by decide), z_up_ne (by decide), k 10 lv (by omega)]
  have fin : ∀ x : Int, (x = 0 ∨ x = 1) → ((z_sI (SH L, ρ, z_up (z_up μ2 8 lv ((E : Int) + 1)) 7 lv ((Z + 1 + 1 : Nat) : Int)) 22 10 (lv : Int) (x % 2)).bind fun h1 => (z_gR h1 5 3 11).bind fun v2 => (z_gI h1 5 3 6).bind fun v3 => (z_sI h1 22 v2 v3 (1 % 2)).bind fun h4 => some h4) = some (SH L, ρ, z_up (z_up (z_up (z_up μ2 8 lv ((E + 1 : Nat) : Int)) 7 lv ((Z + 2 : Nat) : Int)) 10 lv x) 9 lv 1) := by
    intro x hx
    have e2 : x % 2 = x := by omega
    rw [e2, zsI_k s_10 (by omega) (by omega), Option.bind_some, Int.toNat_natCast, zgR_k s_3 rc.2.1.2.2.2.2.2.1 (by decide), Option.bind_some, zgI_k s_3, Option.bind_some, z_up_ne (by decide), z_up_ne (by decide), z_up_ne (by decide), k 3 6 (by omega), h6, zsI_k s_9 (by omega) (by omega), Option.bind_some, Int.toNat_natCast, show ((E + 1 : Nat) : Int) = (E : Int) + 1 by omega]
    rfl
  by_cases g1 : μ 10 lv = 0
  · rw [if_pos g1, zgR_k s_3 rc.2.1.2.2.2.2.2.1 (by decide), Option.bind_some, Option.bind_some, zaI_k s_9 (by omega) (by omega), Option.bind_some, Int.toNat_natCast, z_up_ne (by decide), z_up_ne (by decide), k 9 lv (by omega)]
    by_cases g2 : μ 9 lv = 0
    · rw [if_pos g2, if_pos ⟨g1, g2⟩]
      exact fin 0 (Or.inl rfl)
    · rw [if_neg g2, if_neg (fun z => g2 z.2)]
      exact fin 1 (Or.inr rfl)
  · rw [if_neg g1, if_neg (fun z => g1 z.1)]
    exact fin 1 (Or.inr rfl)
end Lvl
