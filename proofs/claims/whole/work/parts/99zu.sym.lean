/-! What both parsers have made, by keys: 4 m the branch that begins at m, 4 m + 1 the split ahead of the piece at m, 4 m + 2 the character at m -/
abbrev PG : Type := (Nat → Bool) × (Nat → Nat) × (Nat → Int) × (Nat → Int) × (Nat → Nat) × (Nat → Nat) × (Nat → Nat) × (Nat → Nat)
abbrev PG.K (g : PG) : Nat → Bool := g.1
abbrev PG.W (g : PG) : Nat → Nat := g.2.1
abbrev PG.ko (g : PG) : Nat → Int := g.2.2.1
abbrev PG.kf (g : PG) : Nat → Int := g.2.2.2.1
abbrev PG.k1 (g : PG) : Nat → Nat := g.2.2.2.2.1
abbrev PG.k2 (g : PG) : Nat → Nat := g.2.2.2.2.2.1
abbrev PG.D (g : PG) : Nat → Nat := g.2.2.2.2.2.2.1
abbrev PG.dp (g : PG) : Nat → Nat := g.2.2.2.2.2.2.2
/-- the branch that begins at j; nb: the bar that ends it -/
def BrF (g : PG) (τ : Tx) (i j : Nat) (nb : Int) : Prop := (nb = -1 ∧ g.K (4 * j) ≠ true) ∨ ∃ y : Nat, nb = y ∧ j ≤ y ∧ y < i ∧ g.W y = 1 ∧ τ.c y = 124 ∧ g.K (4 * j) = true ∧ g.ko (4 * j) = 6 ∧ g.k1 (4 * j) = 4 * j + 1 ∧ g.k2 (4 * j) = 4 * (y + 1) ∧ g.D (4 * j) = g.dp j ∧ g.dp (y + 1) = g.dp j
/-- the quantifier of the piece k, whose atom goes to b, and which goes to r -/
def QuF (g : PG) (τ : Tx) (k b r : Nat) : Prop :=
  (τ.qu k = 0 ∧ b = r ∧ g.K (4 * k + 1) ≠ true) ∨
  ((τ.qu k = 1 ∨ τ.qu k = 5) ∧ b < r ∧ g.dp r ≤ g.dp k ∧ g.K (4 * k + 1) = true ∧ g.ko (4 * k + 1) = 6 ∧ ((τ.qu k = 1 ∧ g.k1 (4 * k + 1) = 4 * k + 2 ∧ g.k2 (4 * k + 1) = 4 * r + 1) ∨ (τ.qu k = 5 ∧ g.k1 (4 * k + 1) = 4 * r + 1 ∧ g.k2 (4 * k + 1) = 4 * k + 2)) ∧ g.K (4 * b + 2) = true ∧ g.ko (4 * b + 2) = 7 ∧ g.k1 (4 * b + 2) = 4 * k + 1 ∧ g.D (4 * b + 2) = g.dp k + 1) ∨
  ((τ.qu k = 2 ∨ τ.qu k = 6) ∧ b < r ∧ g.K (4 * k + 1) ≠ true ∧ g.K (4 * b + 2) = true ∧ g.ko (4 * b + 2) = 6 ∧ g.D (4 * b + 2) = g.dp k + 1 ∧ ((τ.qu k = 2 ∧ g.k1 (4 * b + 2) = 4 * k + 2 ∧ g.k2 (4 * b + 2) = 4 * r + 1) ∨ (τ.qu k = 6 ∧ g.k1 (4 * b + 2) = 4 * r + 1 ∧ g.k2 (4 * b + 2) = 4 * k + 2))) ∨
  ((τ.qu k = 3 ∨ τ.qu k = 7) ∧ b < r ∧ g.dp r ≤ g.dp k ∧ g.K (4 * k + 1) = true ∧ g.ko (4 * k + 1) = 6 ∧ g.W b = 0 ∧ ((τ.qu k = 3 ∧ g.k1 (4 * k + 1) = 4 * k + 2 ∧ g.k2 (4 * k + 1) = 4 * r + 1) ∨ (τ.qu k = 7 ∧ g.k1 (4 * k + 1) = 4 * r + 1 ∧ g.k2 (4 * k + 1) = 4 * k + 2)))
/-- a piece; e: whether its atom eats a character -/
def PcF (g : PG) (τ : Tx) (i k b e : Nat) : Prop := ∃ r : Nat, τ.ae k = b ∧ τ.pe k = r ∧ k < b ∧ b ≤ r ∧ r ≤ i ∧ (r < i → g.W r = 1) ∧ (∀ m, b ≤ m → m < r → g.W m ≠ 1 ∧ (g.W m = 2 → m = b)) ∧ (g.W (r - 1) = 1 → τ.c (r - 1) ≠ 40 ∧ τ.c (r - 1) ≠ 124) ∧ e ≤ 1 ∧ g.dp r ≤ g.dp k + e ∧ (e = 0 → τ.qu k = 0 ∨ τ.qu k = 3 ∨ τ.qu k = 7) ∧ QuF g τ k b r
def AtF (g : PG) (τ : Tx) (sc : Nat) (lo hi : Nat → Int) (i k : Nat) : Prop := ∃ b e : Nat, g.D (4 * k + 2) = g.dp k ∧ PcF g τ i k b e ∧ (∀ m, k < m → m < b → g.W m = 0) ∧ b ≤ 20 ∧
  ((isR τ.c k = 1 ∧ τ.en = true ∧ g.ko (4 * k + 2) = 5 ∧ e = 0 ∧ ∃ t : Nat, t < 2 ∧ τ.c (k + 1) = 49 + t ∧ g.kf (4 * k + 2) = 1 + t) ∨
   (isR τ.c k = 0 ∧ 0 ≤ g.ko (4 * k + 2) ∧ g.ko (4 * k + 2) < 5 ∧ (g.ko (4 * k + 2) = 2 → 0 ≤ g.kf (4 * k + 2) ∧ g.kf (4 * k + 2) < sc) ∧ (g.ko (4 * k + 2) = 3 ∨ g.ko (4 * k + 2) = 4 → e = 0) ∧ AtS (g.ko (4 * k + 2)) (g.kf (4 * k + 2)) lo hi τ.c k b))
/-- a closed group: it begins at o and ends at q -/
def GrF (g : PG) (τ : Tx) (i o q : Nat) : Prop := o < q ∧ q < i ∧ g.W o = 1 ∧ τ.c o = 40 ∧ g.W q = 1 ∧ τ.c q = 41 ∧ τ.ae o = ((q + 1 : Nat) : Int) ∧ τ.ow q = o ∧ g.K (4 * q + 2) = true
/-- a character of the pattern that is read as one, the levels being closed at q (the end), aimed at 4 q + 2 -/
def TkF (g : PG) (τ : Tx) (sc : Nat) (lo hi : Nat → Int) (i k : Nat) (opB opG : Nat → Prop) : Prop := g.K (4 * k + 2) = true ∧ g.D (4 * k + 2) ≤ g.dp k ∧ (g.K (4 * k + 1) = true → g.D (4 * k + 1) = g.dp k) ∧
  ((τ.c k = 124 ∧ g.ko (4 * k + 2) = 7 ∧ g.D (4 * k + 2) = g.dp k ∧ g.K (4 * k + 1) ≠ true ∧ (k + 1 < i → g.W (k + 1) = 1) ∧ BrF g τ i (k + 1) (τ.ba k) ∧ (opB k ∨ ∃ o q : Nat, τ.ow k = o ∧ o < k ∧ k < q ∧ GrF g τ i o q ∧ g.k1 (4 * k + 2) = 4 * q + 2 ∧ g.D (4 * q + 2) ≤ g.dp k)) ∨
   (τ.c k = 41 ∧ g.ko (4 * k + 2) = 8 ∧ g.K (4 * k + 1) ≠ true ∧ ∃ o a : Nat, GrF g τ i o k ∧ τ.ow k = o ∧ τ.go o = a ∧ a < 3 ∧ g.kf (4 * k + 2) = 2 * a + 1) ∨
   (τ.c k = 40 ∧ g.ko (4 * k + 2) = 8 ∧ g.D (4 * k + 2) = g.dp k ∧ (∃ a : Nat, τ.go k = a ∧ a < 3 ∧ g.kf (4 * k + 2) = 2 * a) ∧ (k + 1 < i → g.W (k + 1) = 1) ∧ BrF g τ i (k + 1) (τ.ba k) ∧ g.dp (k + 1) = g.dp k ∧ (opG k ∨ ∃ q e : Nat, PcF g τ i k (q + 1) e ∧ GrF g τ i k q ∧ g.D (4 * q + 2) = g.dp k + e)) ∨
   (τ.c k ≠ 124 ∧ τ.c k ≠ 41 ∧ τ.c k ≠ 40 ∧ τ.c k ≠ 0 ∧ AtF g τ sc lo hi i k))
/-- where keys may stand -/
def KyF (g : PG) (τ : Tx) (i : Nat) : Prop := (∀ x, g.K x = true → x < 4 * i) ∧ (∀ m, g.K (4 * m + 3) ≠ true) ∧ (∀ m, g.K (4 * m) = true → m = 0 ∨ (g.W (m - 1) = 1 ∧ (τ.c (m - 1) = 40 ∨ τ.c (m - 1) = 124))) ∧ (∀ m, g.K (4 * m + 1) = true → g.W m = 1) ∧ (∀ m, g.K (4 * m + 2) = true → g.W m = 1 ∨ g.W m = 2) ∧ (∀ m, i ≤ m → g.W m = 0) ∧ (0 < i → g.W 0 = 1)
def puK (g : PG) : Nat → Bool := fun x => g.K x && decide (g.ko x = 6 ∨ g.ko x = 8)
/-- all is read -/
def FinS (g : PG) (τ : Tx) (sc Z : Nat) (O F S lo hi : Nat → Int) : Prop := τ.n ≤ 20 ∧ KyF g τ (τ.n + 1) ∧ (g.K (4 * τ.n + 2) = true ∧ g.ko (4 * τ.n + 2) = 9 ∧ g.D (4 * τ.n + 2) = 0 ∧ g.W τ.n = 1 ∧ g.K (4 * τ.n + 1) ≠ true ∧ τ.c τ.n = 0 ∧ τ.ow τ.n < 0) ∧
  (∀ k, k < τ.n → g.W k = 1 → TkF g τ sc lo hi τ.n k (fun k => τ.ow k < 0 ∧ g.k1 (4 * k + 2) = 4 * τ.n + 2) (fun _ => False)) ∧ BrF g τ τ.n 0 τ.fb ∧ Rep g.K (fun _ => False) g.ko g.kf g.k1 g.k2 Z O F S ∧ cn (puK g) 84 ≤ 20 ∧ Z ≤ 41 ∧ sc ≤ 6
/-- the ghost of it -/
def ghO (g : PG) (τ : Tx) : Gh := (fun k => cn g.K (4 * k + 1), fun k => cn g.K (4 * k + 2), fun k => cn g.K (4 * (τ.ae k).toNat), fun k => cn g.K (4 * k), fun a => g.D (kat g.K a 84), fun k => g.W k = 1 ∧ k ≤ τ.n, cn g.K 84)
