/-! The bits of a set -/
def tb (x : Int) (k : Nat) : Bool := (Int64.ofInt x).toBitVec.getLsbD k
theorem ofInt_toInt (a : Int64) : Int64.ofInt a.toInt = a := by
  first
  | exact Int64.ofInt_toInt a
  | simp
theorem tb_or (x y : Int) (k : Nat) : tb (z_lor x y) k = (tb x k || tb y k) := by
  unfold tb z_lor
  rw [ofInt_toInt]
  simp
theorem tb_not (x : Int) {k : Nat} (hk : k < 64) : tb (z_lxor x (-1)) k = !tb x k := by
  unfold tb z_lxor
  rw [ofInt_toInt]
  have : (Int64.ofInt (-1)).toBitVec = BitVec.allOnes 64 := by decide
  simp [this, hk]
theorem tb_0 (k : Nat) : tb 0 k = false := by
  unfold tb
  have : (Int64.ofInt 0).toBitVec = 0#64 := by decide
  rw [this]
  simp
set_option maxRecDepth 100000 in
theorem sh_1 : ∀ j : Fin 64, ((Int32.ofInt ((j.val : Nat) : Int)).toInt64 &&& 63) = Int64.ofNat j.val := by decide
set_option maxRecDepth 100000 in
theorem sh_2 : ∀ j : Fin 64, (Int64.ofInt 1 <<< Int64.ofNat j.val).toBitVec = BitVec.twoPow 64 j.val := by decide
set_option maxRecDepth 100000 in
theorem sh_3 : ∀ j : Fin 64, ((Int32.ofInt ((j.val : Nat) : Int)).toInt64.toUInt64 &&& Int64.toUInt64 63) = UInt64.ofNat j.val := by decide
theorem tb_shl {j : Nat} (hj : j < 64) {k : Nat} (hk : k < 64) : tb (z_lshl 1 (j : Int)) k = decide (k = j) := by
  unfold tb z_lshl
  rw [ofInt_toInt, sh_1 ⟨j, hj⟩, sh_2 ⟨j, hj⟩, BitVec.getLsbD_twoPow]
  by_cases h : k = j
  · simp [h, hj]
  · simp [h, hj, Ne.symm h]
theorem tb_shr (x : Int) {s : Nat} (hs : s < 64) : z_land (z_lushr x (s : Int)) 1 = if tb x s = true then 1 else 0 := by
  have e : (Int64.ofInt (z_lushr x (s : Int))).toBitVec = (Int64.ofInt x).toBitVec >>> s := by
    unfold z_lushr
    rw [ofInt_toInt, sh_3 ⟨s, hs⟩]
    simp [Nat.mod_eq_of_lt hs]
  have e2 : (Int64.ofInt (z_lushr x (s : Int)) &&& Int64.ofInt 1).toBitVec = if tb x s = true then 1#64 else 0#64 := by
    rw [Int64.toBitVec_and, e]
    have h1 : (Int64.ofInt 1).toBitVec = 1#64 := by decide
    rw [h1]
    apply BitVec.eq_of_getLsbD_eq
    intro i hi
    unfold tb
    by_cases hb : (Int64.ofInt x).toBitVec.getLsbD s = true
    · rw [if_pos hb]
      by_cases h0 : i = 0
      · subst h0
        simp at hb
        simp [hb]
      · simp [h0]
    · rw [if_neg hb]
      by_cases h0 : i = 0
      · subst h0
        simp at hb
        simp [hb]
      · simp [h0]
  unfold z_land
  have e3 : Int64.ofInt (z_lushr x (s : Int)) &&& Int64.ofInt 1 = if tb x s = true then Int64.ofInt 1 else Int64.ofInt 0 := by
    apply Int64.toBitVec_inj.mp
    rw [e2]
    split <;> decide
  rw [e3]
  split <;> decide

/-- a character of a set -/
def inB (lo hi : Int) (c : Int) : Bool := if 64 ≤ c - 32 then tb hi (c - 32 - 64).toNat else tb lo (c - 32).toNat
set_option maxRecDepth 100000 in
theorem and63 : ∀ j : Fin 128, z_and ((j.val : Nat) : Int) 63 = ((j.val % 64 : Nat) : Int) := by decide
theorem inS_b {lo hi : Nat → Int} {a c : Int} (h0 : 32 ≤ c) (h1 : c ≤ 126) : inS lo hi a c = if inB (lo a.toNat) (hi a.toNat) c = true then 1 else 0 := by
  obtain ⟨j, hj⟩ : ∃ j : Nat, c - 32 = j := ⟨(c - 32).toNat, by omega⟩
  unfold inS inB
  rw [hj, and63 ⟨j, by omega⟩]
  have fin : ∀ (x : Int) (k : Nat), k < 64 → (if z_lcmp (z_land (z_lushr x ((k : Nat) : Int)) 1) 0 = 0 then (0 : Int) else 1) = if tb x k = true then 1 else 0 := by
    intro x k hk
    rw [tb_shr x hk]
    by_cases h : tb x k = true
    · rw [if_pos h]
      decide
    · rw [if_neg h]
      decide
  by_cases h : 64 ≤ (j : Int)
  · rw [if_pos h, if_pos h]
    have : (((⟨j, by omega⟩ : Fin 128).val % 64 : Nat) : Int) = ((j - 64 : Nat) : Int) := by
      show ((j % 64 : Nat) : Int) = _
      omega
    rw [this, fin _ _ (by omega), show ((j : Int) - 64).toNat = j - 64 by omega]
  · rw [if_neg h, if_neg h]
    have : (((⟨j, by omega⟩ : Fin 128).val % 64 : Nat) : Int) = ((j : Nat) : Int) := by
      show ((j % 64 : Nat) : Int) = _
      omega
    rw [this, fin _ _ (by omega), Int.toNat_natCast]
/-- one more character: what readItem's turn makes of the two rows of bits -/
def bL (lo : Int) (c : Int) : Int := z_lor lo (if 64 ≤ c - 32 then 0 else z_lshl 1 (c - 32))
def bH (hi : Int) (c : Int) : Int := z_lor hi (if 64 ≤ c - 32 then z_lshl 1 (c - 32 - 64) else 0)
theorem inB_add {lo hi c d : Int} (c0 : 32 ≤ c) (c1 : c ≤ 126) (d0 : 32 ≤ d) (d1 : d ≤ 126) : inB (bL lo c) (bH hi c) d = (inB lo hi d || decide (d = c)) := by
  unfold inB bL bH
  obtain ⟨j, hj⟩ : ∃ j : Nat, c - 32 = j := ⟨(c - 32).toNat, by omega⟩
  obtain ⟨k, hk⟩ : ∃ k : Nat, d - 32 = k := ⟨(d - 32).toNat, by omega⟩
  have e : decide (d = c) = decide (k = j) := by
    by_cases h : k = j
    · rw [decide_eq_true h, decide_eq_true (by omega)]
    · rw [decide_eq_false h, decide_eq_false (by omega)]
  rw [hj, hk, e]
  by_cases h1 : 64 ≤ (k : Int)
  · rw [if_pos h1, if_pos h1, tb_or]
    by_cases h2 : 64 ≤ (j : Int)
    · rw [if_pos h2, show (j : Int) - 64 = ((j - 64 : Nat) : Int) by omega, show ((k : Int) - 64).toNat = k - 64 by omega, tb_shl (by omega) (by omega)]
      congr 1
      by_cases h : k = j
      · rw [decide_eq_true h, decide_eq_true (by omega)]
      · rw [decide_eq_false h, decide_eq_false (by omega)]
    · rw [if_neg h2, tb_0, decide_eq_false (show ¬ k = j by omega)]
  · rw [if_neg h1, if_neg h1, tb_or]
    by_cases h2 : 64 ≤ (j : Int)
    · rw [if_pos h2, tb_0, decide_eq_false (show ¬ k = j by omega)]
    · rw [if_neg h2, Int.toNat_natCast, tb_shl (by omega) (by omega)]
theorem inB_not {lo hi c : Int} (c0 : 32 ≤ c) (c1 : c ≤ 126) : inB (z_lxor lo (-1)) (z_lxor hi (-1)) c = !inB lo hi c := by
  unfold inB
  by_cases h1 : 64 ≤ c - 32
  · rw [if_pos h1, if_pos h1, tb_not _ (by omega)]
  · rw [if_neg h1, if_neg h1, tb_not _ (by omega)]
theorem inB_0 (c : Int) : inB 0 0 c = false := by
  unfold inB
  by_cases h1 : 64 ≤ c - 32
  · rw [if_pos h1, tb_0]
  · rw [if_neg h1, tb_0]
