/-! The heap as numbers: kinds and lengths of the cells, their references, their numbers; cell 0 is null. -/
abbrev zV : Type := Nat × Int
abbrev zH : Type := List (Nat × Nat) × (Nat → Nat → Nat) × (Nat → Nat → Int)
def zw (x : Int) : Int := x.bmod 4294967296
def zq (x : Int) : Int := x.bmod 18446744073709551616
def z_up {α : Type} (f : Nat → Nat → α) (c j : Nat) (x : α) : Nat → Nat → α := fun a b => if a = c ∧ b = j then x else f a b
def zsl (h : zH) : Nat := (h.1.map Prod.snd).sum
def z_gI (h : zH) (k c j : Nat) : Option Int := match h.1[c]? with
  | some q => if q.1 = k then some (h.2.2 c j) else none
  | none => none
def z_gR (h : zH) (k c j : Nat) : Option Nat := match h.1[c]? with
  | some q => if q.1 = k ∧ h.2.1 c j ≠ 0 then some (h.2.1 c j) else none
  | none => none
def z_pI (h : zH) (k c j : Nat) (x : Int) : Option zH := match h.1[c]? with
  | some q => if q.1 = k then some (h.1, h.2.1, z_up h.2.2 c j x) else none
  | none => none
def z_pZ (h : zH) (k c j : Nat) (x : Int) : Option zH := if x = 0 ∨ x = 1 then z_pI h k c j x else none
def z_pR (h : zH) (k c j : Nat) (x : Nat) : Option zH := match h.1[c]? with
  | some q => if q.1 = k then some (h.1, z_up h.2.1 c j x, h.2.2) else none
  | none => none
def z_aI (h : zH) (k c : Nat) (i : Int) : Option Int := match h.1[c]? with
  | some q => if q.1 = k ∧ 0 ≤ i ∧ i < q.2 then some (h.2.2 c i.toNat) else none
  | none => none
def z_aR (h : zH) (k c : Nat) (i : Int) : Option Nat := match h.1[c]? with
  | some q => if q.1 = k ∧ 0 ≤ i ∧ i < q.2 ∧ h.2.1 c i.toNat ≠ 0 then some (h.2.1 c i.toNat) else none
  | none => none
def z_sI (h : zH) (k c : Nat) (i x : Int) : Option zH := match h.1[c]? with
  | some q => if q.1 = k ∧ 0 ≤ i ∧ i < q.2 then some (h.1, h.2.1, z_up h.2.2 c i.toNat x) else none
  | none => none
/-- x is a cell of the kind k2 -/
def z_sR (h : zH) (k k2 c : Nat) (i : Int) (x : Nat) : Option zH := match h.1[c]?, h.1[x]? with
  | some q, some u => if q.1 = k ∧ 0 ≤ i ∧ i < q.2 ∧ u.1 = k2 then some (h.1, z_up h.2.1 c i.toNat x, h.2.2) else none
  | _, _ => none
def z_len (h : zH) (k c : Nat) : Option Int := match h.1[c]? with
  | some q => if q.1 = k ∧ q.2 < 2147483648 then some q.2 else none
  | none => none
def z_new (h : zH) (k n : Nat) : zH := (h.1 ++ [(k, n)], fun a b => if a = h.1.length then 0 else h.2.1 a b, fun a b => if a = h.1.length then 0 else h.2.2 a b)
def z_nwA (h : zH) (k : Nat) (n : Int) : Option zH := if 0 ≤ n ∧ n ≤ 100000 then some (z_new h k n.toNat) else none
def z_cp (h : zH) (k c0 : Nat) (sp : Int) (c1 : Nat) (dp n : Int) : Option zH := match h.1[c0]?, h.1[c1]? with
  | some q, some u => if q.1 = k ∧ u.1 = k ∧ 0 ≤ sp ∧ 0 ≤ dp ∧ 0 ≤ n ∧ sp + n ≤ q.2 ∧ dp + n ≤ u.2 then some (h.1, h.2.1, fun a j => if a = c1 ∧ dp.toNat ≤ j ∧ j < dp.toNat + n.toNat then h.2.2 c0 (sp.toNat + (j - dp.toNat)) else h.2.2 a j) else none
  | _, _ => none
/-- the cell c is of the kind k -/
def z_ck (h : zH) (k c : Nat) : Option Nat := match h.1[c]? with
  | some q => if q.1 = k then some q.2 else none
  | none => none
theorem z_ck_of {h : zH} {k c n : Nat} (e : z_ck h k c = some n) : h.1[c]? = some (k, n) := by
  unfold z_ck at e
  split at e
  · rename_i q hq
    split at e
    · rename_i hk
      obtain ⟨a, b⟩ := q
      cases hk
      cases e
      exact hq
    · cases e
  · cases e
/-- a boolean that goes out -/
def z_bo (x : Int) : Option Int := if x = 0 ∨ x = 1 then some x else none
theorem z_bo_of {x b : Int} (e : z_bo x = some b) : b = x ∧ (x = 0 ∨ x = 1) := by
  unfold z_bo at e
  split at e
  · rename_i h
    exact ⟨(Option.some.inj e).symm, h⟩
  · cases e
/-- a char that goes out -/
def z_bc (x : Int) : Option Int := if 0 ≤ x ∧ x < 65536 then some x else none
theorem z_bc_of {x b : Int} (e : z_bc x = some b) : b = x ∧ (0 ≤ x ∧ x < 65536) := by
  unfold z_bc at e
  split at e
  · rename_i h
    exact ⟨(Option.some.inj e).symm, h⟩
  · cases e
def z_max (x y : Int) : Int := if x < y then y else x
def z_min (x y : Int) : Int := if y < x then y else x
def z_and (a b : Int) : Int := (Int32.ofInt a &&& Int32.ofInt b).toInt
def z_land (a b : Int) : Int := (Int64.ofInt a &&& Int64.ofInt b).toInt
def z_lor (a b : Int) : Int := (Int64.ofInt a ||| Int64.ofInt b).toInt
def z_lxor (a b : Int) : Int := (Int64.ofInt a ^^^ Int64.ofInt b).toInt
def z_lshl (a b : Int) : Int := (Int64.ofInt a <<< ((Int32.ofInt b).toInt64 &&& 63)).toInt
def z_lshr (a b : Int) : Int := (Int64.ofInt a >>> ((Int32.ofInt b).toInt64 &&& 63)).toInt
def z_lushr (a b : Int) : Int := ((Int64.ofInt a).toUInt64 >>> ((Int32.ofInt b).toInt64.toUInt64 &&& Int64.toUInt64 63)).toInt64.toInt
def z_lcmp (a b : Int) : Int := if b < a then 1 else if a = b then 0 else -1
def zi32 (x : Int) : Prop := -2147483648 ≤ x ∧ x < 2147483648
def zi64 (x : Int) : Prop := -9223372036854775808 ≤ x ∧ x < 9223372036854775808
theorem zi_w (x : Int) : zi32 (zw x) := by
  have h1 := Int.le_bmod (x := x) (m := 4294967296) (by decide)
  have h2 := Int.bmod_lt (x := x) (m := 4294967296) (by decide)
  unfold zi32 zw
  omega
theorem zi_q (x : Int) : zi64 (zq x) := by
  have h1 := Int.le_bmod (x := x) (m := 18446744073709551616) (by decide)
  have h2 := Int.bmod_lt (x := x) (m := 18446744073709551616) (by decide)
  unfold zi64 zq
  omega
theorem zw_id {x : Int} (h : zi32 x) : zw x = x := by
  unfold zi32 at h
  unfold zw
  rw [Int.bmod_eq_of_le] <;> omega
theorem zi_to (x : Int32) : zi32 x.toInt := by
  have h1 := Int32.le_toInt x
  have h2 := Int32.toInt_lt x
  unfold zi32
  omega
theorem zi_toL (x : Int64) : zi64 x.toInt := by
  have h1 := Int64.le_toInt x
  have h2 := Int64.toInt_lt x
  unfold zi64
  omega
theorem zI_to {x : Int} (h : zi32 x) : (Int32.ofInt x).toInt = x := by
  rw [Int32.toInt_ofInt]
  exact zw_id h
theorem zI_w (x : Int) : Int32.ofInt (zw x) = Int32.ofInt x := by
  apply Int32.toInt_inj.mp
  rw [zI_to (zi_w x), Int32.toInt_ofInt]
  rfl
theorem zL_to {x : Int} (h : zi64 x) : (Int64.ofInt x).toInt = x := by
  rw [Int64.toInt_ofInt]
  unfold zi64 at h
  show x.bmod 18446744073709551616 = x
  rw [Int.bmod_eq_of_le] <;> omega
theorem zL_q (x : Int) : Int64.ofInt (zq x) = Int64.ofInt x := by
  apply Int64.toInt_inj.mp
  rw [zL_to (zi_q x), Int64.toInt_ofInt]
  rfl
theorem zI_of (x : Int32) : Int32.ofInt x.toInt = x := Int32.ofInt_toInt x
theorem zL_of (x : Int64) : Int64.ofInt x.toInt = x := Int64.ofInt_toInt x
theorem zI_eq {x y : Int} (hx : zi32 x) (hy : zi32 y) : Int32.ofInt x = Int32.ofInt y ↔ x = y := by
  constructor
  · intro h
    rw [← zI_to hx, ← zI_to hy, h]
  · intro h
    rw [h]
theorem zI_lt {x y : Int} (hx : zi32 x) (hy : zi32 y) : Int32.ofInt x < Int32.ofInt y ↔ x < y := by
  rw [Int32.lt_iff_toInt_lt, zI_to hx, zI_to hy]
theorem zI_le {x y : Int} (hx : zi32 x) (hy : zi32 y) : Int32.ofInt x ≤ Int32.ofInt y ↔ x ≤ y := by
  rw [Int32.le_iff_toInt_le, zI_to hx, zI_to hy]
theorem zI_cl {x : Int} (hx : zi32 x) : (Int32.ofInt x).toNatClampNeg = x.toNat := by
  show (Int32.ofInt x).toInt.toNat = x.toNat
  rw [zI_to hx]
theorem zI_0 : Int32.ofInt 0 = 0 := rfl
/-- what comes out of a chain -/
theorem z_bd {α β : Type} {o : Option α} {f : α → Option β} {r : β} (h : o.bind f = some r) : ∃ v, o = some v ∧ f v = some r := by
  cases o with
  | none => cases h
  | some v => exact ⟨v, rfl, h⟩
theorem z_it {β : Type} {c : Prop} [Decidable c] {a b : Option β} {r : β} (h : (if c then a else b) = some r) : (c ∧ a = some r) ∨ (¬ c ∧ b = some r) := by
  by_cases hc : c
  · rw [if_pos hc] at h
    exact Or.inl ⟨hc, h⟩
  · rw [if_neg hc] at h
    exact Or.inr ⟨hc, h⟩
def zlit (n : Int) : Bool := decide (-2147483648 ≤ n) && decide (n < 2147483648)
def zlit64 (n : Int) : Bool := decide (-9223372036854775808 ≤ n) && decide (n < 9223372036854775808)
theorem zi_lit {n : Int} (h : zlit n = true) : zi32 n := by
  unfold zlit at h
  simp at h
  exact h
theorem zi_lit64 {n : Int} (h : zlit64 n = true) : zi64 n := by
  unfold zlit64 at h
  simp at h
  exact h
theorem z_m0 {α : Type} {a : α} {l : List α} : a ∈ a :: l := List.mem_cons_self
theorem z_m1 {α : Type} {a b0 : α} {l : List α} : a ∈ b0 :: a :: l := by simp
theorem z_m2 {α : Type} {a b0 b1 : α} {l : List α} : a ∈ b0 :: b1 :: a :: l := by simp
theorem z_m3 {α : Type} {a b0 b1 b2 : α} {l : List α} : a ∈ b0 :: b1 :: b2 :: a :: l := by simp
theorem z_m4 {α : Type} {a b0 b1 b2 b3 : α} {l : List α} : a ∈ b0 :: b1 :: b2 :: b3 :: a :: l := by simp
theorem z_m5 {α : Type} {a b0 b1 b2 b3 b4 : α} {l : List α} : a ∈ b0 :: b1 :: b2 :: b3 :: b4 :: a :: l := by simp
theorem z_m6 {α : Type} {a b0 b1 b2 b3 b4 b5 : α} {l : List α} : a ∈ b0 :: b1 :: b2 :: b3 :: b4 :: b5 :: a :: l := by simp
theorem z_m7 {α : Type} {a b0 b1 b2 b3 b4 b5 b6 : α} {l : List α} : a ∈ b0 :: b1 :: b2 :: b3 :: b4 :: b5 :: b6 :: a :: l := by simp
theorem z_m8 {α : Type} {a b0 b1 b2 b3 b4 b5 b6 b7 : α} {l : List α} : a ∈ b0 :: b1 :: b2 :: b3 :: b4 :: b5 :: b6 :: b7 :: a :: l := by simp
theorem z_m9 {α : Type} {a b0 b1 b2 b3 b4 b5 b6 b7 b8 : α} {l : List α} : a ∈ b0 :: b1 :: b2 :: b3 :: b4 :: b5 :: b6 :: b7 :: b8 :: a :: l := by simp
theorem z_m10 {α : Type} {a b0 b1 b2 b3 b4 b5 b6 b7 b8 b9 : α} {l : List α} : a ∈ b0 :: b1 :: b2 :: b3 :: b4 :: b5 :: b6 :: b7 :: b8 :: b9 :: a :: l := by simp
theorem z_io {β : Type} {c : Prop} [Decidable c] {a : Option β} {r : β} (h : (if c then a else none) = some r) : c ∧ a = some r := by
  rcases z_it h with h | ⟨-, h⟩
  · exact h
  · cases h
