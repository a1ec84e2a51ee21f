/-! The class's code follows the keys -/
section Rpp
variable {K : Nat → Bool} {ko kf : Nat → Int} {k1 k2 : Nat → Nat} {Z : Nat} {O F S : Nat → Int}
abbrev RepN (K : Nat → Bool) (ko kf : Nat → Int) (k1 k2 : Nat → Nat) (Z : Nat) (O F S : Nat → Int) : Prop := Rep K (fun _ => False) ko kf k1 k2 Z O F S
theorem RepN.top (h : RepN K ko kf k1 k2 Z O F S) {y : Nat} (hmax : ∀ x, K x = true → x < y) (hy : y ≤ 84) : cn K y = Z := by
  rw [h.2.1]
  exact (cn_gap2 hy fun x x1 _ z => by have := hmax x z; omega).symm
/-- something that doesn't jump is appended -/
theorem RepN.app (h : RepN K ko kf k1 k2 Z O F S) {y : Nat} (hmax : ∀ x, K x = true → x < y) (hy : y < 84) (ht : ∀ x, K x = true → (ko x = 6 ∨ ko x = 7 → k1 x ≤ y) ∧ (ko x = 6 → k2 x ≤ y)) {op f : Int} (h6 : op ≠ 6) (h7 : op ≠ 7) : RepN (kad K y) (udi ko y op) (udi kf y f) k1 k2 (Z + 1) (insA O Z Z op) (insA F Z Z f) (insA S Z Z 0) := by
  have nk : K y ≠ true := fun z => by have := hmax y z; omega
  have top := h.top hmax (by omega)
  have ri := h.ins (y := y) nk hy (fun x hx _ => by
    have := hmax x hx
    obtain ⟨w1, w2⟩ := ht x hx
    exact ⟨fun u => by have := w1 u; omega, fun u => by have := w2 u; omega⟩) (ko' := udi ko y op) (kf' := udi kf y f) (k1' := k1) (k2' := k2) (fun x hx => ⟨udi_n hx, udi_n hx, rfl, rfl⟩) op f 0
  rw [top] at ri
  refine ri.fix fun x hx hX _ => ?_
  obtain hX | hX := hX
  · exact absurd hX (fun z => z)
  · subst hX
    rw [cn_kad nk, if_neg (Nat.lt_irrefl _), Nat.add_zero, top, insA_eq, insA_eq, udi_e, udi_e]
    exact ⟨rfl, fun z => absurd z h6, fun z => absurd z h7, fun _ _ => rfl⟩
/-- the bars of a level are aimed at y, where the code ends -/
theorem RepN.aim (h : RepN K ko kf k1 k2 Z O F S) {y : Nat} (hmax : ∀ x, K x = true → x < y) (hy : y ≤ 84) (A : Nat → Prop) {k1' : Nat → Nat} {F' : Nat → Int} (hA : ∀ x, K x = true → A x → ko x = 7 ∧ k1' x = y ∧ F' (cn K x) = (Z : Int) - cn K x) (hN : ∀ x, K x = true → ¬ A x → k1' x = k1 x ∧ F' (cn K x) = F (cn K x)) : RepN K ko kf k1' k2 Z O F' S := by
  have top := h.top hmax hy
  obtain ⟨h1, h2, h3⟩ := h
  refine ⟨h1, h2, fun x hx hX => ?_⟩
  obtain ⟨b1, b2, b3, b4⟩ := h3 x hx hX
  by_cases z : A x
  · obtain ⟨a1, a2, a3⟩ := hA x hx z
    refine ⟨b1, fun w => by omega, fun _ => ?_, fun _ w => absurd a1 w⟩
    rw [a2, a3, top]
  · obtain ⟨a2, a3⟩ := hN x hx z
    rw [a2, a3]
    exact ⟨b1, b2, b3, b4⟩
theorem Rep.cf {X : Nat → Prop} (h : Rep K X ko kf k1 k2 Z O F S) {ko' kf' : Nat → Int} {k1' k2' : Nat → Nat} (e : ∀ x, K x = true → ¬ X x → ko' x = ko x ∧ kf' x = kf x ∧ k1' x = k1 x ∧ k2' x = k2 x) (g : ∀ x, K x = true → X x → O (cn K x) = ko' x ∧ (ko' x = 6 → F (cn K x) = (cn K (k1' x) : Int) - cn K x ∧ S (cn K x) = (cn K (k2' x) : Int) - cn K x) ∧ (ko' x = 7 → F (cn K x) = (cn K (k1' x) : Int) - cn K x) ∧ (ko' x ≠ 6 → ko' x ≠ 7 → F (cn K x) = kf' x)) : RepN K ko' kf' k1' k2' Z O F S := by
  obtain ⟨h1, h2, h3⟩ := h
  refine ⟨h1, h2, fun x hx _ => ?_⟩
  by_cases z : X x
  · exact g x hx z
  · obtain ⟨a1, a2, a3, a4⟩ := e x hx z
    rw [a1, a2, a3, a4]
    exact h3 x hx z
end Rpp
section Rpg
variable {g : PG} {Z : Nat} {O F S : Nat → Int}
abbrev RepG (g : PG) (Z : Nat) (O F S : Nat → Int) : Prop := RepN g.K g.ko g.kf g.k1 g.k2 Z O F S
/-- a quantifier -/
theorem RepG.q (h : RepG g Z O F S) {a b r v s : Nat} {qv : Int} {p1 p2 lz : Bool} (hq : qP qv p1 p2) (hab : a < b) (hbr : p2 = true → b < r) (hbr' : b ≤ r) (hr : r ≤ 20) (hmax : ∀ x, g.K x = true → x < 4 * b) (ht : ∀ x, g.K x = true → (g.ko x = 6 ∨ g.ko x = 7 → g.k1 x ≤ 4 * b) ∧ (g.ko x = 6 → g.k2 x ≤ 4 * b)) (hK : g.K (4 * a + 1) ≠ true) (hs : cn g.K (4 * a + 2) = s) (nc : NCg g (4 * a + 1)) {q : Int} (hqq : (qv = 1 ∧ q = 42) ∨ (qv = 2 ∧ q = 43) ∨ (qv = 3 ∧ q = 63) ∨ qv = 0) {O' F' S' : Nat → Int} {l : Int} (hl : (l = 0 ∧ lz = false) ∨ (l ≠ 0 ∧ lz = true))
    (hin : (q = 43 ∧ O' = insA O Z Z 6 ∧ F' = insA F Z Z (if l = 0 then -((Z : Int) - s) else 1) ∧ S' = insA S Z Z (if l = 0 then 1 else -((Z : Int) - s))) ∨ (q = 63 ∧ O' = insA O s Z 6 ∧ F' = insA F s Z (if l = 0 then 1 else (Z : Int) - s + 1) ∧ S' = insA S s Z (if l = 0 then (Z : Int) - s + 1 else 1)) ∨ (q = 42 ∧ O' = insA (insA O s Z 6) (Z + 1) (Z + 1) 7 ∧ F' = insA (insA F s Z (if l = 0 then 1 else (Z : Int) - s + 2)) (Z + 1) (Z + 1) (-((Z : Int) - s + 1)) ∧ S' = insA (insA S s Z (if l = 0 then (Z : Int) - s + 2 else 1)) (Z + 1) (Z + 1) 0)) (hq0 : qv ≠ 0) :
    ∃ Z', RepG (gQ g a b r p1 p2 lz v) Z' O' F' S' ∧ Z' = cn (gQ g a b r p1 p2 lz v).K 84 ∧ (q = 43 → Z' = Z + 1) ∧ (q = 63 → Z' = Z + 1) ∧ (q = 42 → Z' = Z + 2) := by
  have top : cn g.K (4 * b) = Z := h.top hmax (by omega)
  have s1 : cn g.K (4 * a + 1) = s := by rw [← hs]; exact (cn_f hK).symm
  have sZ : s ≤ Z := by rw [← hs, ← top]; exact cn_le2 (by omega)
  have nb : g.K (4 * b + 2) ≠ true := fun z => by have := hmax _ z; omega
  have topb : cn g.K (4 * b + 2) = Z := h.top (fun x z => by have := hmax x z; omega) (by omega)
  have topr : cn g.K (4 * r + 1) = Z := h.top (fun x z => by have := hmax x z; omega) (by omega)
  have ncb : NCg g (4 * b + 2) := fun x hx _ => by
    have := hmax x hx
    obtain ⟨w1, w2⟩ := ht x hx
    exact ⟨fun u => by have := w1 u; omega, fun u => by have := w2 u; omega⟩
  have gK : ∀ x, x ≠ 4 * a + 1 → x ≠ 4 * b + 2 → (gQ g a b r p1 p2 lz v).ko x = g.ko x ∧ (gQ g a b r p1 p2 lz v).kf x = g.kf x ∧ (gQ g a b r p1 p2 lz v).k1 x = g.k1 x ∧ (gQ g a b r p1 p2 lz v).k2 x = g.k2 x := fun x z1 z2 => by
    obtain ⟨u1, u2, u3, u4⟩ := gQ_o (g := g) (a := a) (b := b) (r := r) (v := v) (p1 := p1) (p2 := p2) (lz := lz) (x := x) (fun _ => z1) (fun _ => z2)
    exact ⟨u1, rfl, u2, u3⟩
  have c4 : cn g.K (4 * a + 2) = s := hs
  obtain ⟨e0, -⟩ | ⟨e0, e1, e2⟩ | ⟨e0, e1, e2⟩ | ⟨e0, e1, e2⟩ := hq
  · exact absurd e0 hq0
  · -- star
    have brr := hbr e2
    obtain ⟨w, -⟩ | ⟨w, -⟩ | ⟨-, hO, hF, hS⟩ := hin
    · omega
    · omega
    obtain ⟨x1, x2, x3, x4⟩ := gQ_1 (g := g) (a := a) (b := b) (r := r) (v := v) (p2 := p2) (lz := lz) e1
    obtain ⟨z1, z2, z3, z4⟩ := gQ_2 (g := g) (a := a) (b := b) (r := r) (v := v) (p1 := p1) (lz := lz) e2
    rw [if_pos e1] at z1 z2
    have eK : (gQ g a b r p1 p2 lz v).K = kad (kad g.K (4 * a + 1)) (4 * b + 2) := by
      funext x
      show (g.K x || (p1 && decide (x = 4 * a + 1)) || (p2 && decide (x = 4 * b + 2))) = (g.K x || decide (x = 4 * a + 1) || decide (x = 4 * b + 2))
      rw [e1, e2, Bool.true_and, Bool.true_and]
    have nb' : kad g.K (4 * a + 1) (4 * b + 2) ≠ true := by rw [kad_o (by omega)]; exact nb
    have cc : ∀ t, cn (kad (kad g.K (4 * a + 1)) (4 * b + 2)) t = cn g.K t + (if 4 * a + 1 < t then 1 else 0) + (if 4 * b + 2 < t then 1 else 0) := fun t => by rw [cn_kad nb', cn_kad hK]
    have r1 := h.ins (y := 4 * a + 1) hK (by omega) nc (ko' := g.ko) (kf' := g.kf) (k1' := g.k1) (k2' := g.k2) (fun x _ => ⟨rfl, rfl, rfl, rfl⟩) 6 (if l = 0 then 1 else (Z : Int) - s + 2) (if l = 0 then (Z : Int) - s + 2 else 1)
    have r2 := r1.ins (y := 4 * b + 2) nb' (by omega) (fun x hx hX => by
      rw [kad_o (fun z => hX (Or.inr z))] at hx
      exact ncb x hx (fun z => z)) (ko' := g.ko) (kf' := g.kf) (k1' := g.k1) (k2' := g.k2) (fun x _ => ⟨rfl, rfl, rfl, rfl⟩) 7 (-((Z : Int) - s + 1)) 0
    have cb : cn (kad g.K (4 * a + 1)) (4 * b + 2) = Z + 1 := by rw [cn_kad hK, topb, if_pos (by omega)]
    rw [s1, cb, ← hO, ← hF, ← hS] at r2
    have r3 := r2.cf (ko' := (gQ g a b r p1 p2 lz v).ko) (kf' := (gQ g a b r p1 p2 lz v).kf) (k1' := (gQ g a b r p1 p2 lz v).k1) (k2' := (gQ g a b r p1 p2 lz v).k2) (fun x hx hX => gK x (fun z => hX (Or.inl (Or.inr z))) (fun z => hX (Or.inr z))) (fun x hx hX => by
      obtain (hX | hX) | hX := hX
      · exact absurd hX (fun z => z)
      · subst hX
        have k0 : cn (kad (kad g.K (4 * a + 1)) (4 * b + 2)) (4 * a + 1) = s := by rw [cc, s1, if_neg (by omega), if_neg (by omega), Nat.add_zero]
        have k1 : cn (kad (kad g.K (4 * a + 1)) (4 * b + 2)) (4 * a + 2) = s + 1 := by rw [cc, c4, if_pos (by omega), if_neg (by omega)]
        have k2 : cn (kad (kad g.K (4 * a + 1)) (4 * b + 2)) (4 * r + 1) = Z + 2 := by rw [cc, topr, if_pos (by omega), if_pos (by omega)]
        rw [x1, x2, x3, k0, hO, hF, hS, insA_lt (show s < Z + 1 by omega), insA_lt (show s < Z + 1 by omega), insA_lt (show s < Z + 1 by omega), insA_eq, insA_eq, insA_eq]
        refine ⟨rfl, fun _ => ?_, fun z => by omega, fun z => absurd rfl z⟩
        obtain ⟨l1, l2⟩ | ⟨l1, l2⟩ := hl
        · rw [l2, if_pos l1, if_pos l1, if_neg (by decide), if_neg (by decide), k1, k2]
          omega
        · rw [l2, if_neg l1, if_neg l1, if_pos rfl, if_pos rfl, k1, k2]
          omega
      · subst hX
        have k0 : cn (kad (kad g.K (4 * a + 1)) (4 * b + 2)) (4 * a + 1) = s := by rw [cc, s1, if_neg (by omega), if_neg (by omega), Nat.add_zero]
        have k1 : cn (kad (kad g.K (4 * a + 1)) (4 * b + 2)) (4 * b + 2) = Z + 1 := by rw [cc, topb, if_pos (by omega), if_neg (by omega)]
        rw [z1, z2, k0, k1, hO, hF, insA_eq, insA_eq]
        exact ⟨rfl, fun z => by omega, fun _ => by omega, fun _ z => absurd rfl z⟩)
    rw [← eK] at r3
    exact ⟨_, r3, r3.2.1, fun z => by omega, fun z => by omega, fun _ => rfl⟩
  · -- plus
    have brr := hbr e2
    obtain ⟨-, hO, hF, hS⟩ | ⟨w, -⟩ | ⟨w, -⟩ := hin
    rotate_left
    · omega
    · omega
    have n1 : ¬ p1 = true := by rw [e1]; decide
    obtain ⟨z1, z2, z3, z4⟩ := gQ_2 (g := g) (a := a) (b := b) (r := r) (v := v) (p1 := p1) (lz := lz) e2
    rw [if_neg n1] at z1 z2
    have eK : (gQ g a b r p1 p2 lz v).K = kad g.K (4 * b + 2) := by
      funext x
      show (g.K x || (p1 && decide (x = 4 * a + 1)) || (p2 && decide (x = 4 * b + 2))) = (g.K x || decide (x = 4 * b + 2))
      rw [e1, e2, Bool.true_and, Bool.false_and, Bool.or_false]
    have r1 := h.ins (y := 4 * b + 2) nb (by omega) ncb (ko' := g.ko) (kf' := g.kf) (k1' := g.k1) (k2' := g.k2) (fun x _ => ⟨rfl, rfl, rfl, rfl⟩) 6 (if l = 0 then -((Z : Int) - s) else 1) (if l = 0 then 1 else -((Z : Int) - s))
    rw [topb, ← hO, ← hF, ← hS] at r1
    have r3 := r1.cf (ko' := (gQ g a b r p1 p2 lz v).ko) (kf' := (gQ g a b r p1 p2 lz v).kf) (k1' := (gQ g a b r p1 p2 lz v).k1) (k2' := (gQ g a b r p1 p2 lz v).k2) (fun x hx hX => by
      obtain ⟨u1, u2, u3, u4⟩ := gQ_o (g := g) (a := a) (b := b) (r := r) (v := v) (p1 := p1) (p2 := p2) (lz := lz) (x := x) (fun z => absurd z n1) (fun _ z => hX (Or.inr z))
      exact ⟨u1, rfl, u2, u3⟩) (fun x hx hX => by
      obtain hX | hX := hX
      · exact absurd hX (fun z => z)
      · subst hX
        have k0 : cn (kad g.K (4 * b + 2)) (4 * a + 2) = s := by rw [cn_kad nb, c4, if_neg (by omega), Nat.add_zero]
        have k1 : cn (kad g.K (4 * b + 2)) (4 * b + 2) = Z := by rw [cn_kad nb, topb, if_neg (by omega), Nat.add_zero]
        have k2 : cn (kad g.K (4 * b + 2)) (4 * r + 1) = Z + 1 := by rw [cn_kad nb, topr, if_pos (by omega)]
        rw [z1, z2, z3, k1, hO, hF, hS, insA_eq, insA_eq, insA_eq]
        refine ⟨rfl, fun _ => ?_, fun z => by omega, fun z => absurd rfl z⟩
        obtain ⟨l1, l2⟩ | ⟨l1, l2⟩ := hl
        · rw [l2, if_pos l1, if_pos l1, if_neg (by decide), if_neg (by decide), k0, k2]
          omega
        · rw [l2, if_neg l1, if_neg l1, if_pos rfl, if_pos rfl, k0, k2]
          omega)
    rw [← eK] at r3
    exact ⟨_, r3, r3.2.1, fun _ => rfl, fun z => by omega, fun z => by omega⟩
  · -- question
    obtain ⟨w, -⟩ | ⟨-, hO, hF, hS⟩ | ⟨w, -⟩ := hin
    · omega
    rotate_left
    · omega
    have n2 : ¬ p2 = true := by rw [e2]; decide
    obtain ⟨x1, x2, x3, x4⟩ := gQ_1 (g := g) (a := a) (b := b) (r := r) (v := v) (p2 := p2) (lz := lz) e1
    have eK : (gQ g a b r p1 p2 lz v).K = kad g.K (4 * a + 1) := by
      funext x
      show (g.K x || (p1 && decide (x = 4 * a + 1)) || (p2 && decide (x = 4 * b + 2))) = (g.K x || decide (x = 4 * a + 1))
      rw [e1, e2, Bool.true_and, Bool.false_and, Bool.or_false]
    have r1 := h.ins (y := 4 * a + 1) hK (by omega) nc (ko' := g.ko) (kf' := g.kf) (k1' := g.k1) (k2' := g.k2) (fun x _ => ⟨rfl, rfl, rfl, rfl⟩) 6 (if l = 0 then 1 else (Z : Int) - s + 1) (if l = 0 then (Z : Int) - s + 1 else 1)
    rw [s1, ← hO, ← hF, ← hS] at r1
    have r3 := r1.cf (ko' := (gQ g a b r p1 p2 lz v).ko) (kf' := (gQ g a b r p1 p2 lz v).kf) (k1' := (gQ g a b r p1 p2 lz v).k1) (k2' := (gQ g a b r p1 p2 lz v).k2) (fun x hx hX => by
      obtain ⟨u1, u2, u3, u4⟩ := gQ_o (g := g) (a := a) (b := b) (r := r) (v := v) (p1 := p1) (p2 := p2) (lz := lz) (x := x) (fun _ z => hX (Or.inr z)) (fun z => absurd z n2)
      exact ⟨u1, rfl, u2, u3⟩) (fun x hx hX => by
      obtain hX | hX := hX
      · exact absurd hX (fun z => z)
      · subst hX
        have k0 : cn (kad g.K (4 * a + 1)) (4 * a + 1) = s := by rw [cn_kad hK, s1, if_neg (by omega), Nat.add_zero]
        have k1 : cn (kad g.K (4 * a + 1)) (4 * a + 2) = s + 1 := by rw [cn_kad hK, c4, if_pos (by omega)]
        have k2 : cn (kad g.K (4 * a + 1)) (4 * r + 1) = Z + 1 := by rw [cn_kad hK, topr, if_pos (by omega)]
        rw [x1, x2, x3, k0, hO, hF, hS, insA_eq, insA_eq, insA_eq]
        refine ⟨rfl, fun _ => ?_, fun z => by omega, fun z => absurd rfl z⟩
        obtain ⟨l1, l2⟩ | ⟨l1, l2⟩ := hl
        · rw [l2, if_pos l1, if_pos l1, if_neg (by decide), if_neg (by decide), k1, k2]
          omega
        · rw [l2, if_neg l1, if_neg l1, if_pos rfl, if_pos rfl, k1, k2]
          omega)
    rw [← eK] at r3
    exact ⟨_, r3, r3.2.1, fun z => by omega, fun _ => rfl, fun z => by omega⟩
end Rpg
