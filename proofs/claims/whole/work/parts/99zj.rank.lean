/-! The parsers. Each instruction of the class's code has a key, a place of the text and a slot; its address is the number of keys below -/
def kad (K : Nat → Bool) (y : Nat) : Nat → Bool := fun x => K x || decide (x = y)
theorem kad_y {K : Nat → Bool} {y : Nat} : kad K y y = true := by
  unfold kad
  simp
theorem kad_o {K : Nat → Bool} {x y : Nat} (h : x ≠ y) : kad K y x = K x := by
  unfold kad
  simp [h]
theorem kad_k {K : Nat → Bool} {x y : Nat} (h : K x = true) : kad K y x = true := by
  unfold kad
  simp [h]
theorem cn_t {K : Nat → Bool} {x : Nat} (h : K x = true) : cn K (x + 1) = cn K x + 1 := by
  show cn K x + (if K x = true then 1 else 0) = _
  rw [if_pos h]
theorem cn_f {K : Nat → Bool} {x : Nat} (h : K x ≠ true) : cn K (x + 1) = cn K x := by
  show cn K x + (if K x = true then 1 else 0) = _
  rw [if_neg h]
  rfl
theorem cn_kad {K : Nat → Bool} {y : Nat} (hy : K y ≠ true) : ∀ m, cn (kad K y) m = cn K m + (if y < m then 1 else 0) := by
  intro m
  induction m with
  | zero => rfl
  | succ m ih =>
    by_cases h : m = y
    · subst h
      rw [cn_t kad_y, cn_f hy, ih, if_neg (Nat.lt_irrefl m), if_pos (by omega)]
    · have e : kad K y m = K m := kad_o h
      by_cases hk : K m = true
      · rw [cn_t (e.trans hk), cn_t hk, ih]
        by_cases hm : y < m
        · rw [if_pos hm, if_pos (by omega)]
        · rw [if_neg hm, if_neg (by omega)]
      · rw [cn_f (by rw [e]; exact hk), cn_f hk, ih]
        by_cases hm : y < m
        · rw [if_pos hm, if_pos (by omega)]
        · rw [if_neg hm, if_neg (by omega)]
theorem cn_up {K : Nat → Bool} {a : Nat} : ∀ d, cn K a ≤ cn K (a + d) := by
  intro d
  induction d with
  | zero => exact Nat.le_refl _
  | succ d ih =>
    show _ ≤ cn K (a + d) + _
    omega
theorem cn_le2 {K : Nat → Bool} {a b : Nat} (h : a ≤ b) : cn K a ≤ cn K b := by
  have := cn_up (K := K) (a := a) (b - a)
  rw [show a + (b - a) = b by omega] at this
  exact this
theorem cn_key {K : Nat → Bool} {x y : Nat} (hx : K x = true) (h : x < y) : cn K x + 1 ≤ cn K y := by
  have := cn_le2 (K := K) (show x + 1 ≤ y by omega)
  rw [cn_t hx] at this
  exact this
theorem cn_inj {K : Nat → Bool} {x y : Nat} (hx : K x = true) (hy : K y = true) (h : cn K x = cn K y) : x = y := by
  rcases Nat.lt_trichotomy x y with g | g | g
  · have := cn_key hx g
    omega
  · exact g
  · have := cn_key hy g
    omega
theorem cn_gap {K : Nat → Bool} {a : Nat} : ∀ d, (∀ x, a ≤ x → x < a + d → K x ≠ true) → cn K (a + d) = cn K a := by
  intro d
  induction d with
  | zero => intro _; rfl
  | succ d ih =>
    intro h
    rw [show a + (d + 1) = a + d + 1 by omega, cn_f (h (a + d) (by omega) (by omega))]
    exact ih fun x h1 h2 => h x h1 (by omega)
theorem cn_gap2 {K : Nat → Bool} {a b : Nat} (h : a ≤ b) (g : ∀ x, a ≤ x → x < b → K x ≠ true) : cn K b = cn K a := by
  have := cn_gap (K := K) (a := a) (b - a) (fun x h1 h2 => g x h1 (by omega))
  rw [show a + (b - a) = b by omega] at this
  exact this
/-- a row with one more entry at a -/
def insA (A : Nat → Int) (a Z : Nat) (v : Int) : Nat → Int := fun j => if j < a then A j else if j = a then v else if j ≤ Z then A (j - 1) else A j
theorem insA_lt {A : Nat → Int} {a Z j : Nat} {v : Int} (h : j < a) : insA A a Z v j = A j := if_pos h
theorem insA_eq {A : Nat → Int} {a Z : Nat} {v : Int} : insA A a Z v a = v := by
  unfold insA
  rw [if_neg (Nat.lt_irrefl a), if_pos rfl]
theorem insA_gt {A : Nat → Int} {a Z j : Nat} {v : Int} (h : a ≤ j) (h2 : j < Z) : insA A a Z v (j + 1) = A j := by
  unfold insA
  rw [if_neg (by omega), if_neg (by omega), if_pos (by omega), Nat.add_sub_cancel]
/-- the code by keys; X: keys that are not looked at -/
def Rep (K : Nat → Bool) (X : Nat → Prop) (ko kf : Nat → Int) (k1 k2 : Nat → Nat) (Z : Nat) (O F S : Nat → Int) : Prop :=
  (∀ x, K x = true → x < 84) ∧ Z = cn K 84 ∧ ∀ x, K x = true → ¬ X x → O (cn K x) = ko x ∧ (ko x = 6 → F (cn K x) = (cn K (k1 x) : Int) - cn K x ∧ S (cn K x) = (cn K (k2 x) : Int) - cn K x) ∧ (ko x = 7 → F (cn K x) = (cn K (k1 x) : Int) - cn K x) ∧ (ko x ≠ 6 → ko x ≠ 7 → F (cn K x) = kf x)
/-- no way crosses y -/
def NC (K : Nat → Bool) (X : Nat → Prop) (ko : Nat → Int) (k1 k2 : Nat → Nat) (y : Nat) : Prop := ∀ x, K x = true → ¬ X x → (ko x = 6 ∨ ko x = 7 → (y < k1 x ↔ y < x)) ∧ (ko x = 6 → (y < k2 x ↔ y < x))
theorem Rep.ins {K : Nat → Bool} {X : Nat → Prop} {ko kf : Nat → Int} {k1 k2 : Nat → Nat} {Z : Nat} {O F S : Nat → Int} (h : Rep K X ko kf k1 k2 Z O F S) {y : Nat} (hy : K y ≠ true) (hy4 : y < 84) (nc : NC K X ko k1 k2 y) {ko' kf' : Nat → Int} {k1' k2' : Nat → Nat} (e0 : ∀ x, x ≠ y → ko' x = ko x ∧ kf' x = kf x ∧ k1' x = k1 x ∧ k2' x = k2 x) (op f s : Int) :
    Rep (kad K y) (fun x => X x ∨ x = y) ko' kf' k1' k2' (Z + 1) (insA O (cn K y) Z op) (insA F (cn K y) Z f) (insA S (cn K y) Z s) := by
  obtain ⟨h1, h2, h3⟩ := h
  refine ⟨fun x hx => ?_, ?_, fun x hx hX => ?_⟩
  · by_cases e : x = y
    · omega
    · rw [kad_o e] at hx
      exact h1 x hx
  · rw [cn_kad hy, if_pos hy4, h2]
  · have e : x ≠ y := fun g => hX (Or.inr g)
    have hX' : ¬ X x := fun g => hX (Or.inl g)
    rw [kad_o e] at hx
    obtain ⟨a1, a2, a3, a4⟩ := e0 x e
    obtain ⟨b1, b2, b3, b4⟩ := h3 x hx hX'
    obtain ⟨n1, n2⟩ := nc x hx hX'
    have hz : cn K x < Z := by
      have := cn_key hx (h1 x hx)
      omega
    rw [a1, a2, a3, a4]
    have gen : ∀ (A : Nat → Int) (v : Int), insA A (cn K y) Z v (cn (kad K y) x) = A (cn K x) := by
      intro A v
      rw [cn_kad hy]
      by_cases hyx : y < x
      · rw [if_pos hyx]
        exact insA_gt (cn_le2 (by omega)) hz
      · rw [if_neg hyx]
        exact insA_lt (by
          have := cn_key hx (show x < y by omega)
          omega)
    have df : ∀ t, (y < t ↔ y < x) → (cn (kad K y) t : Int) - cn (kad K y) x = (cn K t : Int) - cn K x := by
      intro t ht
      rw [cn_kad hy, cn_kad hy]
      by_cases hyx : y < x
      · rw [if_pos hyx, if_pos (ht.2 hyx)]
        omega
      · rw [if_neg hyx, if_neg (fun g => hyx (ht.1 g))]
        omega
    rw [gen, gen, gen]
    refine ⟨b1, fun g => ?_, fun g => ?_, b4⟩
    · rw [df _ (n1 (Or.inl g)), df _ (n2 g)]
      exact b2 g
    · rw [df _ (n1 (Or.inr g))]
      exact b3 g
/-- a key that was not looked at is right -/
theorem Rep.fix {K : Nat → Bool} {X X' : Nat → Prop} {ko kf : Nat → Int} {k1 k2 : Nat → Nat} {Z : Nat} {O F S : Nat → Int} (h : Rep K X ko kf k1 k2 Z O F S) (g : ∀ x, K x = true → X x → ¬ X' x → O (cn K x) = ko x ∧ (ko x = 6 → F (cn K x) = (cn K (k1 x) : Int) - cn K x ∧ S (cn K x) = (cn K (k2 x) : Int) - cn K x) ∧ (ko x = 7 → F (cn K x) = (cn K (k1 x) : Int) - cn K x) ∧ (ko x ≠ 6 → ko x ≠ 7 → F (cn K x) = kf x)) : Rep K X' ko kf k1 k2 Z O F S := by
  obtain ⟨h1, h2, h3⟩ := h
  refine ⟨h1, h2, fun x hx hX => ?_⟩
  by_cases e : X x
  · exact g x hx e hX
  · exact h3 x hx e
/-- the a-th key -/
def kat (K : Nat → Bool) (a : Nat) : Nat → Nat
  | 0 => 0
  | m + 1 => if K m = true ∧ cn K m = a then m else kat K a m
theorem kat_k {K : Nat → Bool} {x : Nat} (hx : K x = true) : ∀ m, x < m → kat K (cn K x) m = x := by
  intro m
  induction m with
  | zero => intro h; omega
  | succ m ih =>
    intro h
    show (if K m = true ∧ cn K m = cn K x then m else kat K (cn K x) m) = x
    by_cases e : m = x
    · subst e
      rw [if_pos ⟨hx, rfl⟩]
    · rw [if_neg fun g => e (cn_inj g.1 hx g.2)]
      exact ih (by omega)
/-- counting addresses is counting keys -/
theorem cn_addr {K : Nat → Bool} (P : Nat → Bool) : ∀ m, cn (fun a => decide (a < cn K m) && P a) (cn K m) = cn (fun x => K x && P (cn K x)) m := by
  intro m
  induction m with
  | zero => rfl
  | succ m ih =>
    by_cases hk : K m = true
    · have e1 : cn K (m + 1) = cn K m + 1 := cn_t hk
      have e2 : cn (fun x => K x && P (cn K x)) (m + 1) = cn (fun x => K x && P (cn K x)) m + (if (K m && P (cn K m)) = true then 1 else 0) := rfl
      rw [e2, e1]
      show cn (fun a => decide (a < cn K m + 1) && P a) (cn K m) + (if (decide (cn K m < cn K m + 1) && P (cn K m)) = true then 1 else 0) = _
      rw [← ih, cn_congr (p := fun a => decide (a < cn K m + 1) && P a) (q := fun a => decide (a < cn K m) && P a) (cn K m) (fun x hx => by
        rw [decide_eq_true (show x < cn K m + 1 by omega), decide_eq_true hx]), decide_eq_true (Nat.lt_succ_self _), hk]
    · have e1 : cn K (m + 1) = cn K m := cn_f hk
      have e2 : cn (fun x => K x && P (cn K x)) (m + 1) = cn (fun x => K x && P (cn K x)) m + (if (K m && P (cn K m)) = true then 1 else 0) := rfl
      rw [e2, e1, ih, if_neg (by
        intro g
        rw [Bool.and_eq_true] at g
        exact hk g.1)]
      rfl
