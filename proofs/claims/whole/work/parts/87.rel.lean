/-! What class and model have in common between two calls: the class's cells by μ (and the row of lines by ρ), the model's by ν -/
/-- the row of lines: six lines, each once -/
def Dc (ρ : Nat → Nat → Nat) : Prop := (∀ k, k < 6 → ∃ q, q < 6 ∧ ρ 11 k = 179 + 9 * q) ∧ ∀ k k', k < 6 → k' < 6 → ρ 11 k = ρ 11 k' → k = k'
def RDraft (μ ν : Nat → Nat → Int) : Prop := 0 ≤ μ 1 1 ∧ μ 1 1 ≤ 40 ∧ ν 233 1 = μ 1 1 ∧ ∀ j : Nat, (j : Int) < μ 1 1 → ν 234 j = μ 2 j ∧ 32 ≤ μ 2 j ∧ μ 2 j ≤ 126
/-- a pattern: the class's code at p, the model's text at pt -/
def RPat (μ ν : Nat → Nat → Int) (p pt : Nat) (en : Bool) : Prop := ν 239 pt ≤ 20 ∧ PatOk (codOf μ p) (txOf ν pt en)
def RRules (μ ν : Nat → Nat → Int) : Prop :=
  0 ≤ μ 24 1 ∧ μ 24 1 ≤ 9 ∧ ν 233 3 = μ 24 1 ∧ μ 36 2 = 1 ∧
  (∀ r : Nat, (r : Int) ≤ μ 24 1 → ν 235 r = μ (36 + 13 * r) 2 ∧ (μ (36 + 13 * r) 2 = 0 ∨ μ (36 + 13 * r) 2 = 1)) ∧
  (∀ r : Nat, 1 ≤ r → (r : Int) ≤ μ 24 1 → ν 236 r = μ (36 + 13 * r) 3 ∧ ν 237 r = μ (36 + 13 * r) 4 ∧ 1 ≤ μ (36 + 13 * r) 4 ∧ μ (36 + 13 * r) 4 ≤ 99 ∧ RPat μ ν (37 + 13 * r) (2 * r) false ∧ (μ (36 + 13 * r) 2 = 1 → RPat μ ν (43 + 13 * r) (2 * r + 1) true)) ∧
  (∀ r : Nat, r < 10 → ν 238 r = μ (36 + 13 * r) 5 ∧ -1 ≤ μ (36 + 13 * r) 5 ∧ μ (36 + 13 * r) 5 ≤ μ 24 1)
/-- a state: the class's at s, the model's number x -/
def RSt (μ ν : Nat → Nat → Int) (s x : Nat) : Prop :=
  0 ≤ μ s 0 ∧ μ s 0 ≤ 5 ∧ ν 263 x = μ s 0 ∧
  (∀ l : Nat, (l : Int) < μ s 0 → ν 264 (5 * x + l) = μ (s + 1) l ∧ 1 ≤ μ (s + 1) l ∧ μ (s + 1) l ≤ μ 24 1 ∧ μ (36 + 13 * (μ (s + 1) l).toNat) 2 = 1) ∧
  (∀ j : Nat, (j : Int) < 2 * μ s 0 → ν 265 (10 * x + j) = μ (s + 2) j ∧ μ (s + 2) j ≤ 24 ∧ ∀ c : Nat, (c : Int) < μ (s + 2) j → ν 266 (240 * x + 24 * j + c) = μ (s + 3) (24 * j + c) ∧ 0 ≤ μ (s + 3) (24 * j + c) ∧ μ (s + 3) (24 * j + c) < 65536)
/-- a line: the class's at l, the model's number k -/
def RLn (μ ν : Nat → Nat → Int) (l k : Nat) : Prop :=
  (0 ≤ μ l 1 ∧ μ l 1 ≤ 24 ∧ ν 256 k = μ l 1 ∧ ∀ c : Nat, (c : Int) < μ l 1 → ν 257 (24 * k + c) = μ (l + 1) c ∧ 32 ≤ μ (l + 1) c ∧ μ (l + 1) c ≤ 126) ∧
  (ν 258 k = μ l 6 ∧ (μ l 6 = 0 ∨ μ l 6 = 1)) ∧
  (0 ≤ μ l 5 ∧ μ l 5 ≤ 24 ∧ ν 259 k = μ l 5 ∧ ∀ t : Nat, (t : Int) < μ l 5 → ν 260 (24 * k + t) = μ (l + 2) t ∧ ν 261 (24 * k + t) = μ (l + 3) t ∧ 0 ≤ μ (l + 3) t ∧ μ (l + 3) t ≤ 6 ∧ ∀ i : Nat, (i : Int) < μ (l + 3) t → ν 262 (6 * (24 * k + t) + i) = μ (l + 4) (6 * t + i)) ∧
  RSt μ ν (l + 5) k
def RLines (ρ : Nat → Nat → Nat) (μ ν : Nat → Nat → Int) : Prop := 0 ≤ μ 1 5 ∧ μ 1 5 ≤ 6 ∧ ν 233 30 = μ 1 5 ∧ ν 233 31 = μ 1 6 ∧ ∀ k : Nat, (k : Int) < μ 1 5 → RLn μ ν (ρ 11 k) k
def RTheme (μ ν : Nat → Nat → Int) : Prop := 0 ≤ μ 12 3 ∧ μ 12 3 ≤ 6 ∧ ν 233 48 = μ 12 3 ∧ ∀ e : Nat, (e : Int) < μ 12 3 → ν 269 e = μ 13 e ∧ ν 270 e = μ 14 e ∧ ν 271 e = μ 15 e ∧ 1 ≤ μ 15 e ∧ 0 ≤ μ 14 e
def Rel (ρ : Nat → Nat → Nat) (μ ν : Nat → Nat → Int) : Prop := RDraft μ ν ∧ RRules μ ν ∧ RLines ρ μ ν ∧ RTheme μ ν ∧ (ν 233 0 = μ 32 0 ∧ 10 ≤ μ 32 0 ∧ μ 32 0 ≤ 300) ∧ μ 16 0 = 0 ∧ -2147483648 ≤ μ 1 6 ∧ μ 1 6 < 2147483648
def Inv (ρ : Nat → Nat → Nat) (μ : Nat → Nat → Int) : Prop := Rc ρ ∧ Rm ρ ∧ Dc ρ ∧ Rel ρ μ μ
