/-! The two parsers' cells at the loop's head -/
theorem ob_id {α : Type} (x : Option α) : (x.bind fun h => some h) = x := by cases x <;> rfl
/-- what the two parsers leave alone -/
def FrP (p : Nat) (μ μ' : Nat → Nat → Int) : Prop := ∀ c j, c < 3 ∨ 10 < c → c < p ∨ p + 5 < c → μ' c j = μ c j
def FrQ (pt : Nat) (ν ν' : Nat → Nat → Int) : Prop := (∀ c j, c < 241 ∨ 251 < c → ν' c j = ν c j) ∧ (∀ c j, c < 247 → j < 21 * pt ∨ 21 * pt + 20 < j → ν' c j = ν c j) ∧ ∀ j, j ≠ pt → ν' 247 j = ν 247 j
theorem FrP.rf {p : Nat} {μ : Nat → Nat → Int} : FrP p μ μ := fun _ _ _ _ => rfl
theorem FrP.tr {p : Nat} {a b c : Nat → Nat → Int} (h : FrP p a b) (g : FrP p b c) : FrP p a c := fun x j h1 h2 => (g x j h1 h2).trans (h x j h1 h2)
theorem FrP.up {p : Nat} {a b : Nat → Nat → Int} (h : FrP p a b) {c : Nat} (hc : (3 ≤ c ∧ c ≤ 10) ∨ (p ≤ c ∧ c ≤ p + 5)) {j : Nat} {v : Int} : FrP p a (z_up b c j v) := fun x y h1 h2 => (z_up_ne (by omega)).trans (h x y h1 h2)
theorem FrQ.rf {pt : Nat} {ν : Nat → Nat → Int} : FrQ pt ν ν := ⟨fun _ _ _ => rfl, fun _ _ _ _ => rfl, fun _ _ => rfl⟩
theorem FrQ.tr {pt : Nat} {a b c : Nat → Nat → Int} (h : FrQ pt a b) (g : FrQ pt b c) : FrQ pt a c := ⟨fun x j h1 => (g.1 x j h1).trans (h.1 x j h1), fun x j h1 h2 => (g.2.1 x j h1 h2).trans (h.2.1 x j h1 h2), fun j h1 => (g.2.2 j h1).trans (h.2.2 j h1)⟩
theorem FrQ.upA {pt : Nat} {a b : Nat → Nat → Int} (h : FrQ pt a b) {c i : Nat} (hc : 241 ≤ c ∧ c ≤ 246) (hi : i ≤ 20) {v : Int} : FrQ pt a (z_up b c (21 * pt + i) v) := by
  refine ⟨fun x j h1 => (z_up_ne (by omega)).trans (h.1 x j h1), fun x j h1 h2 => ?_, fun j h1 => (z_up_ne (by omega)).trans (h.2.2 j h1)⟩
  by_cases e : x = c
  · subst e
    exact (z_up_nj (by omega)).trans (h.2.1 x j h1 h2)
  · exact (z_up_ne e).trans (h.2.1 x j h1 h2)
theorem FrQ.upF {pt : Nat} {a b : Nat → Nat → Int} (h : FrQ pt a b) {v : Int} : FrQ pt a (z_up b 247 pt v) := ⟨fun x j h1 => (z_up_ne (by omega)).trans (h.1 x j h1), fun x j h1 h2 => (z_up_ne (by omega)).trans (h.2.1 x j h1 h2), fun j h1 => (z_up_nj h1).trans (h.2.2 j h1)⟩
theorem FrQ.upL {pt : Nat} {a b : Nat → Nat → Int} (h : FrQ pt a b) {c j' : Nat} (hc : 248 ≤ c ∧ c ≤ 251) {v : Int} : FrQ pt a (z_up b c j' v) := ⟨fun x j h1 => (z_up_ne (by omega)).trans (h.1 x j h1), fun x j h1 h2 => (z_up_ne (by omega)).trans (h.2.1 x j h1 h2), fun j h1 => (z_up_ne (by omega)).trans (h.2.2 j h1)⟩
/-- the chain of a level, and that it lies below the branch that is read -/
theorem LvF.chn {g : PG} {τ : Tx} {Z i lv l : Nat} {O F S : Nat → Int} {lo ll be se : Nat → Int} {E : Nat → Nat} (hL : LvF g τ i lv lo ll be se E l) (hi : i ≤ 20) (h : RepG g Z O F S) :
    ∃ as : Nat → Nat, as 0 = cn g.K (4 * (lo l + 1).toNat) ∧ E l ≤ 20 ∧ ∀ m, m < E l → as m < cn g.K (4 * (ll l + 1).toNat) ∧ (as m : Int) + S (as m) = (as (m + 1) : Nat) ∧ 1 ≤ as (m + 1) ∧ as (m + 1) ≤ Z := by
  obtain ⟨-, l2, -, -, -, -, -, -, -, -, -, js, j1, j2, j3, j4⟩ := hL
  have mono : ∀ d m, m + d ≤ E l → js m + d ≤ js (m + d) := by
    intro d
    induction d with
    | zero => intro m _; exact Nat.le_refl _
    | succ d ih =>
      intro m q
      have := ih m (by omega)
      have := (j3 (m + d) (by omega)).1
      rw [show m + (d + 1) = m + d + 1 by omega]
      omega
  have hE : E l ≤ 20 := by
    have := mono (E l) 0 (by omega)
    rw [Nat.zero_add, j2] at this
    omega
  refine ⟨fun m => cn g.K (4 * js m), by rw [← j1], hE, fun m hm => ?_⟩
  obtain ⟨z1, z2, z3, z4, z5, -⟩ := j3 m hm
  have s1 := ((h.2.2 _ z3 (fun w => w)).2.1 z4).2
  rw [z5] at s1
  have s3 := cn_key z3 (show 4 * js m < 4 * js (m + 1) by omega)
  have s4 := cn_le2 (K := g.K) (show 4 * js (m + 1) ≤ 84 by omega)
  have s5 := h.2.1
  have s6 := mono (E l - m) m (by omega)
  rw [show m + (E l - m) = E l by omega, j2] at s6
  have s7 := cn_key z3 (show 4 * js m < 4 * (ll l + 1).toNat by omega)
  refine ⟨by dsimp only; omega, ?_, by dsimp only; omega, by dsimp only; omega⟩
  dsimp only
  rw [s1]
  omega
/-- the pattern is bad: what the end needs -/
def PBd (p : Nat) (μ : Nat → Nat → Int) : Prop := μ 3 4 = 1 ∧ ∃ (lv E Z : Nat) (as : Nat → Nat), lv < 4 ∧ E ≤ 20 ∧ Z ≤ 41 ∧ μ 3 6 = lv ∧ μ p 5 = Z ∧ μ 6 lv = as 0 ∧ μ 8 lv = E ∧ Chn p E Z μ as
section Hea
variable {L : Nat} {ρ : Nat → Nat → Nat} {p : Nat}
theorem e_endB (rc : Rc ρ) (hp : ptS L p) (pr : ptR ρ p) (hp6 : 36 ≤ p) {μ : Nat → Nat → Int} (h : PBd p μ) : ∃ μ', f_Pr_parse_117 3 p (SH L, ρ, μ) = some (0, (SH L, ρ, μ')) ∧ FrP p μ μ' := by
  obtain ⟨h4, lv, E, Z, as, a1, a2, a3, a4, a5, a6, a7, a8⟩ := h
  obtain ⟨z, μ1, i1, i2, i3, -⟩ := e_close (L := L) (ρ := ρ) rc hp pr hp6 (E := E) (Z := Z) (lv := lv) (as := as) (μ := μ) (by omega) a3 a1 a4 a5 a6 a7 a8
  have f1 : FrP p μ μ1 := fun c j _ q => i3 c j (by omega)
  have e0 : ∃ μ2, f_Pt_append p 9 0 (SH L, ρ, μ1) = some (SH L, ρ, μ2) ∧ FrP p μ1 μ2 ∧ μ2 3 4 = μ1 3 4 := by
    by_cases g : Z = 41
    · refine ⟨μ1, ?_, FrP.rf, rfl⟩
      unfold f_Pt_append f_Pt_insert
      rw [zgI_k hp.1, Option.bind_some, zck_k hp.1, Option.bind_some, Option.bind_some, i3 p 5 (by omega), a5, g, if_pos (show ((41 : Nat) : Int) = 41 from rfl), Option.bind_some]
    · obtain ⟨μ2, j1, j2⟩ := e_append (L := L) (ρ := ρ) hp pr (Z := Z) (op := 9) (f := 0) (μ := μ1) (by omega) ((i3 p 5 (by omega)).trans a5)
      exact ⟨μ2, j1, fun c j _ q => j2.1 c j (by omega), j2.1 3 4 (by omega)⟩
  obtain ⟨μ2, j1, j2, j3⟩ := e0
  refine ⟨μ2, ?_, f1.tr j2⟩
  unfold f_Pr_parse_117
  rw [zck_k s_3, Option.bind_some, i1, Option.bind_some]
  dsimp only
  rw [zck_k hp.1, Option.bind_some, j1, Option.bind_some, zgI_k s_3, Option.bind_some, j3, i3 3 4 (by omega), h4, if_neg (by decide)]
/-- both at the loop's head -/
def PHp (p pt n : Nat) (en : Bool) (c : Nat → Int) (μ ν : Nat → Nat → Int) (g : PG) (sc i lv gr : Nat) (E : Nat → Nat) : Prop :=
  (Src μ n c ∧ tA ν pt = c ∧ ν 239 pt = n ∧ ∀ j, j < n → c j ≠ 32) ∧ (μ 3 2 = i ∧ μ 3 3 = enI en ∧ μ 3 4 = 0 ∧ μ 3 5 = gr ∧ μ 3 6 = lv) ∧ (μ p 5 = cn g.K 84 ∧ μ p 6 = sc) ∧ RepG g (cn g.K 84) (μ (p + 1)) (μ (p + 2)) (μ (p + 3)) ∧
  (∀ l, l ≤ lv → μ 6 l = cn g.K (4 * (ν 248 l + 1).toNat) ∧ μ 7 l = cn g.K (4 * (ν 249 l + 1).toNat) ∧ μ 8 l = E l ∧ μ 9 l = ν 251 l ∧ μ 10 l = ν 250 l ∧ (1 ≤ l → μ 5 l = ν 244 (21 * pt + (ν 248 l).toNat) + 1)) ∧
  PIv g (txOf ν pt en) sc (μ (p + 4)) (μ (p + 5)) i lv gr (ν 248) (ν 249) (ν 251) (ν 250) E
/-- a bad end from a level's chain, the code below s0 being left alone -/
theorem PHp.bad {pt n sc i lv gr l s0 : Nat} {en : Bool} {c : Nat → Int} {μ μ' ν : Nat → Nat → Int} {g : PG} {E : Nat → Nat} (h : PHp p pt n en c μ ν g sc i lv gr E) (hl : l ≤ lv) (hs : cn g.K (4 * (ν 249 l + 1).toNat) ≤ s0) (h4 : μ' 3 4 = 1) (h6 : μ' 3 6 = l) (h5 : ∃ Z' : Nat, μ' p 5 = Z' ∧ Z' ≤ 41 ∧ s0 ≤ Z') (h66 : μ' 6 l = μ 6 l) (h8 : μ' 8 l = μ 8 l) (hS : ∀ j, j < s0 → μ' (p + 3) j = μ (p + 3) j) : PBd p μ' := by
  obtain ⟨⟨c1, c2, c3, c4⟩, ⟨d1, d2, d3, d4, d5⟩, ⟨e1, e2⟩, rp, lf, iv⟩ := h
  obtain ⟨⟨q1, q2, q3, q4, q5⟩, -, -, -, -, lv0, -, -, zc⟩ := iv
  have q1' : i ≤ 20 := Nat.le_trans q1 q2
  obtain ⟨as, a1, a2, a3⟩ := (lv0 l hl).chn q1' rp
  obtain ⟨f1, f2, f3, -⟩ := lf l hl
  obtain ⟨Z', z1, z2, z3⟩ := h5
  refine ⟨h4, l, E l, Z', as, by omega, a2, z2, h6, z1, by rw [h66, f1, a1], by rw [h8, f3], fun m hm => ?_⟩
  obtain ⟨w1, w2, w3, w4⟩ := a3 m hm
  refine ⟨by omega, ?_, w3, ?_⟩
  · rw [hS _ (by omega)]
    exact w2
  · omega
end Hea
