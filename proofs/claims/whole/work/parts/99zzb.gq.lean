/-! A piece with its quantifier: what it makes of the keys -/
def gQ (g : PG) (a b r : Nat) (p1 p2 lz : Bool) (v : Nat) : PG :=
  (fun x => g.K x || (p1 && decide (x = 4 * a + 1)) || (p2 && decide (x = 4 * b + 2)),
   fun m => if p2 = true ∧ m = b then 2 else g.W m,
   fun x => if p1 = true ∧ x = 4 * a + 1 then 6 else if p2 = true ∧ x = 4 * b + 2 then (if p1 = true then 7 else 6) else g.ko x,
   g.kf,
   fun x => if p1 = true ∧ x = 4 * a + 1 then (if lz = true then 4 * r + 1 else 4 * a + 2) else if p2 = true ∧ x = 4 * b + 2 then (if p1 = true then 4 * a + 1 else if lz = true then 4 * r + 1 else 4 * a + 2) else g.k1 x,
   fun x => if (p1 = true ∧ x = 4 * a + 1) ∨ (p2 = true ∧ x = 4 * b + 2) then (if lz = true then 4 * a + 2 else 4 * r + 1) else g.k2 x,
   fun x => if p1 = true ∧ x = 4 * a + 1 then g.dp a else if p2 = true ∧ x = 4 * b + 2 then g.dp a + 1 else g.D x,
   udn g.dp r v)
section Gq
variable {g : PG} {a b r v : Nat} {p1 p2 lz : Bool}
theorem gQ_K {x : Nat} : (gQ g a b r p1 p2 lz v).K x = true ↔ g.K x = true ∨ (p1 = true ∧ x = 4 * a + 1) ∨ (p2 = true ∧ x = 4 * b + 2) := by
  show (g.K x || (p1 && decide (x = 4 * a + 1)) || (p2 && decide (x = 4 * b + 2))) = true ↔ _
  simp [or_assoc]
theorem gQ_o {x : Nat} (h1 : p1 = true → x ≠ 4 * a + 1) (h2 : p2 = true → x ≠ 4 * b + 2) : (gQ g a b r p1 p2 lz v).ko x = g.ko x ∧ (gQ g a b r p1 p2 lz v).k1 x = g.k1 x ∧ (gQ g a b r p1 p2 lz v).k2 x = g.k2 x ∧ (gQ g a b r p1 p2 lz v).D x = g.D x := by
  have n1 : ¬ (p1 = true ∧ x = 4 * a + 1) := fun z => h1 z.1 z.2
  have n2 : ¬ (p2 = true ∧ x = 4 * b + 2) := fun z => h2 z.1 z.2
  refine ⟨(if_neg n1).trans (if_neg n2), (if_neg n1).trans (if_neg n2), if_neg (fun z => z.elim n1 n2), (if_neg n1).trans (if_neg n2)⟩
theorem gQ_1 (h : p1 = true) : (gQ g a b r p1 p2 lz v).ko (4 * a + 1) = 6 ∧ (gQ g a b r p1 p2 lz v).k1 (4 * a + 1) = (if lz = true then 4 * r + 1 else 4 * a + 2) ∧ (gQ g a b r p1 p2 lz v).k2 (4 * a + 1) = (if lz = true then 4 * a + 2 else 4 * r + 1) ∧ (gQ g a b r p1 p2 lz v).D (4 * a + 1) = g.dp a := ⟨if_pos ⟨h, rfl⟩, if_pos ⟨h, rfl⟩, if_pos (Or.inl ⟨h, rfl⟩), if_pos ⟨h, rfl⟩⟩
theorem gQ_2 (h : p2 = true) : (gQ g a b r p1 p2 lz v).ko (4 * b + 2) = (if p1 = true then 7 else 6) ∧ (gQ g a b r p1 p2 lz v).k1 (4 * b + 2) = (if p1 = true then 4 * a + 1 else if lz = true then 4 * r + 1 else 4 * a + 2) ∧ (gQ g a b r p1 p2 lz v).k2 (4 * b + 2) = (if lz = true then 4 * a + 2 else 4 * r + 1) ∧ (gQ g a b r p1 p2 lz v).D (4 * b + 2) = g.dp a + 1 := by
  have n1 : ¬ (p1 = true ∧ 4 * b + 2 = 4 * a + 1) := fun z => by have := z.2; omega
  refine ⟨(if_neg n1).trans (if_pos ⟨h, rfl⟩), (if_neg n1).trans (if_pos ⟨h, rfl⟩), if_pos (Or.inr ⟨h, rfl⟩), (if_neg n1).trans (if_pos ⟨h, rfl⟩)⟩
theorem gQ_W {m : Nat} (h : m ≠ b) : (gQ g a b r p1 p2 lz v).W m = g.W m := if_neg fun z => h z.2
theorem gQ_Wb : (gQ g a b r p1 p2 lz v).W b = if p2 = true then 2 else g.W b := by
  show (if p2 = true ∧ b = b then 2 else g.W b) = _
  by_cases h : p2 = true
  · rw [if_pos ⟨h, rfl⟩, if_pos h]
  · rw [if_neg fun z => h z.1, if_neg h]
theorem gQ_dp {m : Nat} (h : m ≠ r) : (gQ g a b r p1 p2 lz v).dp m = g.dp m := udn_n h
theorem gQ_dpr : (gQ g a b r p1 p2 lz v).dp r = v := udn_e
/-- which of the two a quantifier's number makes -/
def qP (qv : Int) (p1 p2 : Bool) : Prop := (qv = 0 ∧ p1 = false ∧ p2 = false) ∨ (qv = 1 ∧ p1 = true ∧ p2 = true) ∨ (qv = 2 ∧ p1 = false ∧ p2 = true) ∨ (qv = 3 ∧ p1 = true ∧ p2 = false)
theorem gQ_pc {τ' : Tx} {qv : Int} {e : Nat} (hq : qP qv p1 p2) (hab : a < b) (hbr : b ≤ r) (hbr0 : qv = 0 ↔ b = r) (hK : g.K (4 * a + 1) ≠ true) (hKb : g.K (4 * b + 2) ≠ true) (hW : ∀ m, b ≤ m → g.W m = 0) (ha : τ'.ae a = b) (hp : τ'.pe a = r) (hqu : τ'.qu a = if lz = true ∧ qv ≠ 0 then qv + 4 else qv) (he : e ≤ 1) (hv : v ≤ g.dp a + e) (hv2 : qv = 1 ∨ qv = 3 → v ≤ g.dp a) (he0 : e = 0 → qv = 0 ∨ qv = 3) (hc : g.W (b - 1) = 1 → τ'.c (b - 1) ≠ 40 ∧ τ'.c (b - 1) ≠ 124) : PcF (gQ g a b r p1 p2 lz v) τ' r a b e := by
  have dpa : (gQ g a b r p1 p2 lz v).dp a = g.dp a := gQ_dp (by omega)
  have wq : ∀ m, b ≤ m → (gQ g a b r p1 p2 lz v).W m ≠ 1 ∧ ((gQ g a b r p1 p2 lz v).W m = 2 → m = b) := by
    intro m hm
    by_cases e : m = b
    · subst e
      rw [gQ_Wb]
      refine ⟨fun z => ?_, fun _ => rfl⟩
      by_cases h : p2 = true
      · rw [if_pos h] at z
        omega
      · rw [if_neg h, hW m hm] at z
        omega
    · rw [gQ_W e, hW m hm]
      exact ⟨by decide, fun z => by omega⟩
  have K1 : (gQ g a b r p1 p2 lz v).K (4 * a + 1) = true ↔ p1 = true := by
    rw [gQ_K]
    constructor
    · rintro (z | z | z)
      · exact absurd z hK
      · exact z.1
      · have := z.2
        omega
    · exact fun z => Or.inr (Or.inl ⟨z, rfl⟩)
  have K2 : p2 = true → (gQ g a b r p1 p2 lz v).K (4 * b + 2) = true := fun z => gQ_K.2 (Or.inr (Or.inr ⟨z, rfl⟩))
  refine ⟨r, ha, hp, hab, hbr, Nat.le_refl _, fun z => by omega, fun m q1 q2 => wq m q1, fun z => ?_, he, by rw [gQ_dpr, dpa]; exact hv, fun z => ?_, ?_⟩
  · by_cases q : b ≤ r - 1
    · exact absurd z (wq _ q).1
    · have q1 : r - 1 = b - 1 := by omega
      rw [q1] at z ⊢
      rw [gQ_W (by omega)] at z
      exact hc z
  · rw [hqu]
    have := he0 z
    by_cases l : lz = true ∧ qv ≠ 0
    · rw [if_pos l]
      omega
    · rw [if_neg l]
      omega
  · unfold QuF
    rw [gQ_dpr, dpa, hqu]
    obtain ⟨q1, q2, q3⟩ | ⟨q1, q2, q3⟩ | ⟨q1, q2, q3⟩ | ⟨q1, q2, q3⟩ := hq
    · exact Or.inl ⟨by rw [if_neg (fun z => z.2 q1)]; exact q1, hbr0.1 q1, fun z => by rw [K1, q2] at z; cases z⟩
    · obtain ⟨x1, x2, x3, x4⟩ := gQ_1 (g := g) (a := a) (b := b) (r := r) (v := v) (p2 := p2) (lz := lz) q2
      obtain ⟨w1, w2, w3, w4⟩ := gQ_2 (g := g) (a := a) (b := b) (r := r) (v := v) (p1 := p1) (lz := lz) q3
      rw [if_pos q2] at w1 w2
      have hlt : b < r := by omega
      refine Or.inr (Or.inl ⟨?_, hlt, hv2 (Or.inl q1), K1.2 q2, x1, ?_, K2 q3, w1, w2, w4⟩)
      · by_cases l : lz = true ∧ qv ≠ 0
        · rw [if_pos l]
          omega
        · rw [if_neg l]
          omega
      · by_cases l : lz = true
        · rw [if_pos l] at x2 x3
          exact Or.inr ⟨by rw [if_pos ⟨l, by omega⟩]; omega, x2, x3⟩
        · rw [if_neg l] at x2 x3
          exact Or.inl ⟨by rw [if_neg (fun z => l z.1)]; omega, x2, x3⟩
    · obtain ⟨w1, w2, w3, w4⟩ := gQ_2 (g := g) (a := a) (b := b) (r := r) (v := v) (p1 := p1) (lz := lz) q3
      have n1 : ¬ p1 = true := by rw [q2]; decide
      rw [if_neg n1] at w1 w2
      have hlt : b < r := by omega
      refine Or.inr (Or.inr (Or.inl ⟨?_, hlt, fun z => n1 (K1.1 z), K2 q3, w1, w4, ?_⟩))
      · by_cases l : lz = true ∧ qv ≠ 0
        · rw [if_pos l]
          omega
        · rw [if_neg l]
          omega
      · by_cases l : lz = true
        · rw [if_pos l] at w2 w3
          exact Or.inr ⟨by rw [if_pos ⟨l, by omega⟩]; omega, w2, w3⟩
        · rw [if_neg l] at w2 w3
          exact Or.inl ⟨by rw [if_neg (fun z => l z.1)]; omega, w2, w3⟩
    · obtain ⟨x1, x2, x3, x4⟩ := gQ_1 (g := g) (a := a) (b := b) (r := r) (v := v) (p2 := p2) (lz := lz) q2
      have hlt : b < r := by omega
      refine Or.inr (Or.inr (Or.inr ⟨?_, hlt, hv2 (Or.inr q1), K1.2 q2, x1, ?_, ?_⟩))
      · by_cases l : lz = true ∧ qv ≠ 0
        · rw [if_pos l]
          omega
        · rw [if_neg l]
          omega
      · rw [gQ_Wb, if_neg (by rw [q3]; decide)]
        exact hW b (Nat.le_refl _)
      · by_cases l : lz = true
        · rw [if_pos l] at x2 x3
          exact Or.inr ⟨by rw [if_pos ⟨l, by omega⟩]; omega, x2, x3⟩
        · rw [if_neg l] at x2 x3
          exact Or.inl ⟨by rw [if_neg (fun z => l z.1)]; omega, x2, x3⟩
end Gq
