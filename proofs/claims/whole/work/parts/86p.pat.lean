/-! A pattern: what links the class's code and the model's text -/
def inS (lo hi : Nat → Int) (a c : Int) : Int := if z_lcmp (z_land (z_lushr (if 64 ≤ c - 32 then hi a.toNat else lo a.toNat) (z_and (c - 32) 63)) 1) 0 = 0 then 0 else 1
def aF (op f : Int) (lo hi : Nat → Int) (len : Int) (tx : Nat → Int) (he : Int) : Int × Int :=
  if op = 3 then (if he = 0 then 1 else 0, he) else
  if op = 4 then (if he = len then 1 else 0, he) else
  if he < len then (if op = 1 then 1 else if op = 0 then (if tx he.toNat = f then 1 else 0) else if op = 2 then inS lo hi f (tx he.toNat) else 0, he + 1) else (0, he)
def tA (μ : Nat → Nat → Int) (pt : Nat) (i : Nat) : Int := if (i : Int) < μ 239 pt then μ 240 (21 * pt + i) else 0
def isR (at' : Nat → Int) (i : Nat) : Int := if at' i = 92 ∧ 48 ≤ at' (i + 1) ∧ at' (i + 1) ≤ 57 then 1 else 0
def isE (at' : Nat → Int) (i : Nat) : Int := if at' i = 0 ∨ at' i = 124 ∨ at' i = 41 then 1 else 0
def inL (at' : Nat → Int) (en : Nat) (c : Int) : Nat → Nat → Int → Int
  | 0, _, fo => fo
  | n + 1, k, fo => if en ≤ k then fo else
    if at' (k + 1) = 45 ∧ k + 2 < en then inL at' en c n (k + 3) (if fo = 0 ∧ ¬ (at' k ≤ c ∧ c ≤ at' (k + 2)) then 0 else 1)
    else inL at' en c n (k + 1) (if fo = 0 ∧ ¬ (at' k ≤ c ∧ c ≤ at' k) then 0 else 1)
def inI (at' : Nat → Int) (i ae : Nat) (c : Int) : Int :=
  if at' (i + 1) = 94 then (if inL at' (ae - 1) c 25 (i + 2) 0 = 1 then 0 else 1) else (if inL at' (ae - 1) c 25 (i + 1) 0 = 0 then 0 else 1)
def mA (at' : Nat → Int) (i ae : Nat) (len : Int) (tx : Nat → Int) (he : Int) : Int :=
  if at' i = 94 then (if he = 0 then he else -1) else
  if at' i = 36 then (if he = len then he else -1) else
  if he < len then
    (if (if at' i = 46 then 1 else if at' i = 91 then inI at' i ae (tx he.toNat) else if at' i = 92 then (if at' (i + 1) = tx he.toNat then 1 else 0) else if at' i = tx he.toNat then 1 else 0) = (0 : Int) then -1 else he + 1)
  else -1
def cn (p : Nat → Bool) : Nat → Nat
  | 0 => 0
  | m + 1 => cn p m + (if p m = true then 1 else 0)
abbrev Cod : Type := (Nat → Int) × (Nat → Int) × (Nat → Int) × (Nat → Int) × (Nat → Int)
abbrev Cod.op (x : Cod) : Nat → Int := x.1
abbrev Cod.f (x : Cod) : Nat → Int := x.2.1
abbrev Cod.s (x : Cod) : Nat → Int := x.2.2.1
abbrev Cod.lo (x : Cod) : Nat → Int := x.2.2.2.1
abbrev Cod.hi (x : Cod) : Nat → Int := x.2.2.2.2
abbrev Tx : Type := (Nat → Int) × (Nat → Int) × (Nat → Int) × (Nat → Int) × (Nat → Int) × (Nat → Int) × (Nat → Int) × (Int) × (Nat) × (Bool)
abbrev Tx.c (x : Tx) : Nat → Int := x.1
abbrev Tx.qu (x : Tx) : Nat → Int := x.2.1
abbrev Tx.ae (x : Tx) : Nat → Int := x.2.2.1
abbrev Tx.pe (x : Tx) : Nat → Int := x.2.2.2.1
abbrev Tx.go (x : Tx) : Nat → Int := x.2.2.2.2.1
abbrev Tx.ow (x : Tx) : Nat → Int := x.2.2.2.2.2.1
abbrev Tx.ba (x : Tx) : Nat → Int := x.2.2.2.2.2.2.1
abbrev Tx.fb (x : Tx) : Int := x.2.2.2.2.2.2.2.1
abbrev Tx.n (x : Tx) : Nat := x.2.2.2.2.2.2.2.2.1
abbrev Tx.en (x : Tx) : Bool := x.2.2.2.2.2.2.2.2.2
abbrev Gh : Type := (Nat → Nat) × (Nat → Nat) × (Nat → Nat) × (Nat → Nat) × (Nat → Nat) × (Nat → Prop) × (Nat)
abbrev Gh.sq (x : Gh) : Nat → Nat := x.1
abbrev Gh.ta (x : Gh) : Nat → Nat := x.2.1
abbrev Gh.af (x : Gh) : Nat → Nat := x.2.2.1
abbrev Gh.bs (x : Gh) : Nat → Nat := x.2.2.2.1
abbrev Gh.d (x : Gh) : Nat → Nat := x.2.2.2.2.1
abbrev Gh.V (x : Gh) : Nat → Prop := x.2.2.2.2.2.1
abbrev Gh.z (x : Gh) : Nat := x.2.2.2.2.2.2
def Gh.rk (γ : Gh) (x : Nat) : Int := (x : Int) - 41 * (γ.d x : Int)
def SPc (κ : Cod) (γ : Gh) (x y w : Nat) : Prop := κ.op x = 6 ∧ (x : Int) + κ.f x = y ∧ (x : Int) + κ.s x = w ∧ γ.rk x < γ.rk y ∧ γ.rk x < γ.rk w ∧ x < γ.z ∧ y < γ.z ∧ w < γ.z
def JPc (κ : Cod) (γ : Gh) (x y : Nat) : Prop := κ.op x = 7 ∧ (x : Int) + κ.f x = y ∧ γ.rk x < γ.rk y ∧ x < γ.z ∧ y < γ.z
def GEc (κ : Cod) (γ : Gh) (x g : Nat) : Prop := κ.op x = 8 ∧ κ.f x = g ∧ γ.rk x < γ.rk (x + 1) ∧ x + 1 < γ.z
def BRc (κ : Cod) (τ : Tx) (γ : Gh) (j : Nat) (nb : Int) : Prop := γ.V j ∧ γ.bs j < γ.z ∧ γ.sq j < γ.z ∧ ((nb < 0 ∧ γ.sq j = γ.bs j) ∨ ∃ y : Nat, nb = y ∧ y < τ.n ∧ τ.c y = 124 ∧ γ.V y ∧ SPc κ γ (γ.bs j) (γ.sq j) (γ.bs (y + 1)))
/-- where a branch ends: at e -/
def ENc (κ : Cod) (τ : Tx) (γ : Gh) (k e : Nat) : Prop := (τ.ow k < 0 ∧ κ.op e = 9 ∧ e < γ.z) ∨ ∃ o g : Nat, τ.ow k = o ∧ o < τ.n ∧ isE τ.c o = 0 ∧ γ.V o ∧ τ.go o = g ∧ g < 3 ∧ GEc κ γ e (2 * g + 1) ∧ γ.af o = e + 1
def lOk (len : Int) (tx : Nat → Int) : Prop := 0 ≤ len ∧ len ≤ 24 ∧ ∀ c : Nat, (c : Int) < len → 32 ≤ tx c ∧ tx c ≤ 126
/-- an atom that is no group -/
def AMc (κ : Cod) (τ : Tx) (γ : Gh) (k : Nat) : Prop := γ.af k = γ.ta k + 1 ∧
  ((isR τ.c k = 1 ∧ τ.en = true ∧ κ.op (γ.ta k) = 5 ∧ γ.rk (γ.ta k) < γ.rk (γ.ta k + 1) ∧ ∃ t : Nat, t < 2 ∧ τ.c (k + 1) = 49 + t ∧ κ.f (γ.ta k) = 1 + t) ∨
   (isR τ.c k = 0 ∧ 0 ≤ κ.op (γ.ta k) ∧ κ.op (γ.ta k) < 5 ∧ (κ.op (γ.ta k) = 2 → 0 ≤ κ.f (γ.ta k) ∧ κ.f (γ.ta k) < 6) ∧ (κ.op (γ.ta k) = 3 ∨ κ.op (γ.ta k) = 4 → γ.rk (γ.ta k) < γ.rk (γ.ta k + 1)) ∧
    ∃ a : Nat, τ.ae k = a ∧ 0 < a ∧ a ≤ 21 ∧ ∀ (len : Int) (tx : Nat → Int) (he : Int), lOk len tx → 0 ≤ he → he ≤ len →
      (mA τ.c k a len tx he = -1 ∧ (aF (κ.op (γ.ta k)) (κ.f (γ.ta k)) κ.lo κ.hi len tx he).1 = 0) ∨
      (0 ≤ mA τ.c k a len tx he ∧ (aF (κ.op (γ.ta k)) (κ.f (γ.ta k)) κ.lo κ.hi len tx he).1 = 1 ∧ (aF (κ.op (γ.ta k)) (κ.f (γ.ta k)) κ.lo κ.hi len tx he).2 = mA τ.c k a len tx he ∧ ((mA τ.c k a len tx he = he + 1 ∧ he < len) ∨ (mA τ.c k a len tx he = he ∧ (κ.op (γ.ta k) = 3 ∨ κ.op (γ.ta k) = 4))))))
def GRc (κ : Cod) (τ : Tx) (γ : Gh) (k : Nat) : Prop := ∃ g : Nat, τ.go k = g ∧ g < 3 ∧ GEc κ γ (γ.ta k) (2 * g) ∧ γ.bs (k + 1) = γ.ta k + 1 ∧ BRc κ τ γ (k + 1) (τ.ba k)
/-- how a quantifier leads -/
def QUc (κ : Cod) (τ : Tx) (γ : Gh) (k r : Nat) : Prop :=
  (τ.qu k = 0 ∧ γ.ta k = γ.sq k ∧ γ.af k = γ.sq r) ∨
  (τ.qu k = 1 ∧ SPc κ γ (γ.sq k) (γ.ta k) (γ.sq r) ∧ JPc κ γ (γ.af k) (γ.sq k)) ∨
  (τ.qu k = 5 ∧ SPc κ γ (γ.sq k) (γ.sq r) (γ.ta k) ∧ JPc κ γ (γ.af k) (γ.sq k)) ∨
  (τ.qu k = 2 ∧ γ.ta k = γ.sq k ∧ SPc κ γ (γ.af k) (γ.ta k) (γ.sq r)) ∨
  (τ.qu k = 6 ∧ γ.ta k = γ.sq k ∧ SPc κ γ (γ.af k) (γ.sq r) (γ.ta k)) ∨
  (τ.qu k = 3 ∧ SPc κ γ (γ.sq k) (γ.ta k) (γ.sq r) ∧ γ.af k = γ.sq r) ∨
  (τ.qu k = 7 ∧ SPc κ γ (γ.sq k) (γ.sq r) (γ.ta k) ∧ γ.af k = γ.sq r)
def LCc (κ : Cod) (τ : Tx) (γ : Gh) (k : Nat) : Prop := k ≤ τ.n ∧ γ.sq k < γ.z ∧
  ((isE τ.c k = 1 ∧ (∃ e : Nat, ((τ.c k = 124 ∧ JPc κ γ (γ.sq k) e) ∨ (τ.c k ≠ 124 ∧ γ.sq k = e)) ∧ ENc κ τ γ k e) ∧ (τ.c k = 124 → BRc κ τ γ (k + 1) (τ.ba k))) ∨
   (isE τ.c k = 0 ∧ k < τ.n ∧ γ.ta k < γ.z ∧ γ.af k < γ.z ∧ (∃ r : Nat, τ.pe k = r ∧ γ.V r ∧ QUc κ τ γ k r) ∧ ((τ.c k = 40 ∧ GRc κ τ γ k) ∨ (τ.c k ≠ 40 ∧ AMc κ τ γ k))))
def Gh.pu (γ : Gh) (κ : Cod) : Nat → Bool := fun x => decide (x < γ.z ∧ (κ.op x = 6 ∨ κ.op x = 8))
def GhOk (κ : Cod) (τ : Tx) (γ : Gh) : Prop := γ.z ≤ 41 ∧ cn (γ.pu κ) 41 ≤ 20 ∧ τ.n ≤ 20 ∧ γ.bs 0 = 0 ∧ BRc κ τ γ 0 τ.fb ∧ ∀ k, γ.V k → LCc κ τ γ k
def PatOk (κ : Cod) (τ : Tx) : Prop := ∃ γ, GhOk κ τ γ
abbrev codOf (μ : Nat → Nat → Int) (p : Nat) : Cod := (μ (p + 1), μ (p + 2), μ (p + 3), μ (p + 4), μ (p + 5))
abbrev txOf (ν : Nat → Nat → Int) (pt : Nat) (en : Bool) : Tx := (tA ν pt, fun i => ν 241 (21 * pt + i), fun i => ν 242 (21 * pt + i), fun i => ν 243 (21 * pt + i), fun i => ν 244 (21 * pt + i), fun i => ν 245 (21 * pt + i), fun i => ν 246 (21 * pt + i), ν 247 pt, (ν 239 pt).toNat, en)
/-- the annotations are asked for up to 20 alone -/
def agT (τ τ' : Tx) : Prop := τ'.c = τ.c ∧ τ'.n = τ.n ∧ τ'.en = τ.en ∧ τ'.fb = τ.fb ∧ ∀ i, i ≤ 20 → τ'.qu i = τ.qu i ∧ τ'.ae i = τ.ae i ∧ τ'.pe i = τ.pe i ∧ τ'.go i = τ.go i ∧ τ'.ow i = τ.ow i ∧ τ'.ba i = τ.ba i
theorem BRc.ag {κ : Cod} {τ τ' : Tx} {γ : Gh} {j : Nat} {nb : Int} (h : BRc κ τ γ j nb) (a : agT τ τ') : BRc κ τ' γ j nb := by
  obtain ⟨h1, h2, h3, h4⟩ := h
  refine ⟨h1, h2, h3, ?_⟩
  obtain h4 | ⟨y, y1, y2, y3, y4⟩ := h4
  · exact Or.inl h4
  · exact Or.inr ⟨y, y1, by rw [a.2.1]; exact y2, by rw [a.1]; exact y3, y4⟩
theorem LCc.ag {κ : Cod} {τ τ' : Tx} {γ : Gh} {k : Nat} (h : LCc κ τ γ k) (hn : τ.n ≤ 20) (a : agT τ τ') : LCc κ τ' γ k := by
  obtain ⟨h1, h2, h3⟩ := h
  obtain ⟨aq, aa, ap, ag, ao, ab⟩ := a.2.2.2.2 k (Nat.le_trans h1 hn)
  refine ⟨by rw [a.2.1]; exact h1, h2, ?_⟩
  obtain ⟨e1, ⟨e, e2, e3⟩, e4⟩ | ⟨e1, e2, e3, e4, ⟨r, r1, r2, r3⟩, e6⟩ := h3
  · refine Or.inl ⟨by rw [a.1]; exact e1, ⟨e, by rw [a.1]; exact e2, ?_⟩, fun hc => ?_⟩
    · obtain ⟨n1, n2⟩ | ⟨o, g, n1, n2, n3, n4, n5, n6⟩ := e3
      · exact Or.inl ⟨by rw [ao]; exact n1, n2⟩
      · exact Or.inr ⟨o, g, by rw [ao]; exact n1, by rw [a.2.1]; exact n2, by rw [a.1]; exact n3, n4, by rw [(a.2.2.2.2 o (by omega)).2.2.2.1]; exact n5, n6⟩
    · rw [ab]
      exact (e4 (by rw [← a.1]; exact hc)).ag a
  · refine Or.inr ⟨by rw [a.1]; exact e1, by rw [a.2.1]; exact e2, e3, e4, ⟨r, by rw [ap]; exact r1, r2, ?_⟩, ?_⟩
    · unfold QUc
      rw [aq]
      exact r3
    · obtain ⟨c1, g, g1, g2, g3, g4, g5⟩ | ⟨c1, c2⟩ := e6
      · exact Or.inl ⟨by rw [a.1]; exact c1, g, by rw [ag]; exact g1, g2, g3, g4, by rw [ab]; exact g5.ag a⟩
      · refine Or.inr ⟨by rw [a.1]; exact c1, ?_⟩
        unfold AMc at c2 ⊢
        rw [a.1, a.2.2.1, aa]
        exact c2
theorem GhOk.ag {κ : Cod} {τ τ' : Tx} {γ : Gh} (h : GhOk κ τ γ) (a : agT τ τ') : GhOk κ τ' γ := by
  obtain ⟨h1, h2, h3, h4, h5, h6⟩ := h
  exact ⟨h1, h2, by rw [a.2.1]; exact h3, h4, by rw [a.2.2.2.1]; exact h5.ag a, fun k hk => (h6 k hk).ag h3 a⟩
