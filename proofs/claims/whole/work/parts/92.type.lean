/-! type: the eight bytes of a long -/
def z_by (x : Int) (k : Nat) : Int := z_and (zw (z_lushr x (8 * (k : Int)))) 255
theorem by_sh (X : Int64) (a : Int64) (b : UInt64) (s : Nat) (hs : s ≤ 56) (ha : (a.toBitVec.smod 64).toNat = s) (hb : (b.toBitVec % 64).toNat = s) : (X >>> a).toInt32 &&& Int32.ofInt 255 = ((X.toUInt64 >>> b).toInt64).toInt32 &&& Int32.ofInt 255 := by
  apply Int32.toBitVec_inj.mp
  apply BitVec.eq_of_getLsbD_eq
  intro i hi
  have h255 : (Int32.ofInt 255).toBitVec = 255#32 := rfl
  have e1 : (X >>> a).toInt32.toBitVec = (X.toBitVec.sshiftRight s).setWidth 32 := by
    rw [Int64.toBitVec_toInt32, BitVec.signExtend_eq_setWidth_of_le _ (by decide), Int64.toBitVec_shiftRight, BitVec.sshiftRight_eq', ha]
  have e2 : ((X.toUInt64 >>> b).toInt64).toInt32.toBitVec = (X.toBitVec >>> s).setWidth 32 := by
    have e3 : ((X.toUInt64 >>> b).toInt64).toBitVec = (X.toUInt64 >>> b).toBitVec := rfl
    rw [Int64.toBitVec_toInt32, BitVec.signExtend_eq_setWidth_of_le _ (by decide), e3, UInt64.toBitVec_shiftRight, BitVec.ushiftRight_eq', hb]
    rfl
  rw [Int32.toBitVec_and, Int32.toBitVec_and, e1, e2, h255]
  simp only [BitVec.getLsbD_and, BitVec.getLsbD_setWidth, BitVec.getLsbD_ushiftRight, BitVec.getLsbD_sshiftRight]
  by_cases h8 : i < 8
  · have : s + i < 64 := by omega
    have h64 : ¬ 64 ≤ i := by omega
    simp [this, hi, h64]
  · have h0 : (255#32).getLsbD i = false := by
      have : i = 8 ∨ i = 9 ∨ i = 10 ∨ i = 11 ∨ i = 12 ∨ i = 13 ∨ i = 14 ∨ i = 15 ∨ i = 16 ∨ i = 17 ∨ i = 18 ∨ i = 19 ∨ i = 20 ∨ i = 21 ∨ i = 22 ∨ i = 23 ∨ i = 24 ∨ i = 25 ∨ i = 26 ∨ i = 27 ∨ i = 28 ∨ i = 29 ∨ i = 30 ∨ i = 31 := by omega
      rcases this with rfl | rfl | rfl | rfl | rfl | rfl | rfl | rfl | rfl | rfl | rfl | rfl | rfl | rfl | rfl | rfl | rfl | rfl | rfl | rfl | rfl | rfl | rfl | rfl <;> rfl
    rw [h0, Bool.and_false, Bool.and_false]
theorem by_eq (x : Int) (k : Nat) (hk : k < 8) : z_and (zw (z_lshr x (8 * (k : Int)))) 255 = z_by x k := by
  unfold z_by z_and
  congr 1
  rw [← zl2i, ← zl2i]
  unfold z_lshr z_lushr
  rw [zL_of, zL_of]
  have h : k = 0 ∨ k = 1 ∨ k = 2 ∨ k = 3 ∨ k = 4 ∨ k = 5 ∨ k = 6 ∨ k = 7 := by omega
  rcases h with rfl | rfl | rfl | rfl | rfl | rfl | rfl | rfl
  · exact by_sh _ _ _ 0 (by decide) (by decide) (by decide)
  · exact by_sh _ _ _ 8 (by decide) (by decide) (by decide)
  · exact by_sh _ _ _ 16 (by decide) (by decide) (by decide)
  · exact by_sh _ _ _ 24 (by decide) (by decide) (by decide)
  · exact by_sh _ _ _ 32 (by decide) (by decide) (by decide)
  · exact by_sh _ _ _ 40 (by decide) (by decide) (by decide)
  · exact by_sh _ _ _ 48 (by decide) (by decide) (by decide)
  · exact by_sh _ _ _ 56 (by decide) (by decide) (by decide)
theorem by_rg (x : Int) (k : Nat) : 0 ≤ z_by x k ∧ z_by x k ≤ 255 := by
  unfold z_by z_and
  have h : (Int32.ofInt 255).toBitVec.toNat = 2 ^ 8 - 1 := rfl
  rw [pk_and _ 8 h, nI_toInt (by omega)]
  omega
/-- the byte may stand in a draft -/
def z_okb (b : Int) : Prop := b = 0 ∨ (32 ≤ b ∧ b ≤ 126)
def z_all (x : Int) (k : Nat) : Prop := ∀ q, q < k → z_okb (z_by x q)
def z_cnt (x : Int) : Nat → Nat
  | 0 => 0
  | k + 1 => z_cnt x k + (if z_by x k = 0 then 0 else 1)
theorem cnt_le (x : Int) : ∀ k, z_cnt x k ≤ k
  | 0 => Nat.le_refl _
  | k + 1 => by
    have := cnt_le x k
    unfold z_cnt
    split <;> omega
theorem t_6 (L : Nat) (x : Int) (ρ : Nat → Nat → Nat) (μ : Nat → Nat → Int) (h0 : 0 ≤ μ 1 1) (h40 : μ 1 1 ≤ 40) : ∀ (n k : Nat) (a : Nat), k ≤ 8 → k < n → a + k ≤ 8 →
    (z_all x k ∧ μ 1 1 + a + z_cnt x k ≤ 40 → f_SL_type_6 n 1 x (a : Int) (8 * (k : Int) - 8) (SH L, ρ, μ) = f_SL_type_79 100000 1 x 56 (SH L, ρ, μ)) ∧ (¬ (z_all x k ∧ μ 1 1 + a + z_cnt x k ≤ 40) → f_SL_type_6 n 1 x (a : Int) (8 * (k : Int) - 8) (SH L, ρ, μ) = some (0, (SH L, ρ, μ))) := by
  intro n
  induction n with
  | zero =>
    intro k a h1 h2
    omega
  | succ n ih =>
    intro k a hk hn ha
    unfold f_SL_type_6
    cases k with
    | zero =>
      rw [if_pos (by omega), zgI_k s_1, Option.bind_some, zw_of (by omega) (by omega)]
      constructor
      · rintro ⟨-, h⟩
        have h : μ 1 1 + a + ((0 : Nat) : Int) ≤ 40 := h
        rw [if_pos (by omega)]
      · intro h
        rw [if_neg]
        intro q
        apply h
        refine ⟨fun q hq => by omega, ?_⟩
        show μ 1 1 + a + ((0 : Nat) : Int) ≤ 40
        omega
    | succ k =>
      rw [if_neg (by omega)]
      have es : 8 * ((k + 1 : Nat) : Int) - 8 = 8 * (k : Int) := by omega
      rw [es]
      have eb : z_and (zw (z_lushr x (8 * (k : Int)))) 255 = z_by x k := rfl
      simp only [eb]
      have hall : z_all x (k + 1) ↔ z_all x k ∧ z_okb (z_by x k) := by
        constructor
        · exact fun h => ⟨fun q hq => h q (by omega), h k (by omega)⟩
        · rintro ⟨h1, h2⟩ q hq
          by_cases hqk : q = k
          · subst hqk; exact h2
          · exact h1 q (by omega)
      have nx : ∀ a' : Nat, a' + k ≤ 8 → f_SL_type_6 n 1 x (a' : Int) (zw (8 * (k : Int) + (-8))) (SH L, ρ, μ) = f_SL_type_6 n 1 x (a' : Int) (8 * (k : Int) - 8) (SH L, ρ, μ) := by
        intro a' _
        rw [zw_of (by omega) (by omega)]
        rfl
      have hrg := by_rg x k
      by_cases hz : z_by x k = 0
      · rw [if_pos hz]
        unfold f_SL_type_43 f_SL_type_54
        rw [if_pos hz, zw_of (x := (a : Int) + 0) (by omega) (by omega), Int.add_zero, nx a (by omega)]
        have hc : z_cnt x (k + 1) = z_cnt x k := by show z_cnt x k + _ = _; rw [if_pos hz]; rfl
        rw [hc, hall]
        have := ih k a (by omega) (by omega) (by omega)
        constructor
        · rintro ⟨⟨h1, h2⟩, h3⟩
          exact this.1 ⟨h1, h3⟩
        · intro h
          exact this.2 fun ⟨h1, h3⟩ => h ⟨⟨h1, Or.inl hz⟩, h3⟩
      · rw [if_neg hz]
        have hc : z_cnt x (k + 1) = z_cnt x k + 1 := by show z_cnt x k + _ = _; rw [if_neg hz]
        by_cases h32 : z_by x k < 32
        · rw [if_pos h32]
          refine ⟨fun h => ?_, fun _ => rfl⟩
          have := (hall.mp h.1).2
          unfold z_okb at this
          omega
        · rw [if_neg h32]
          by_cases h126 : z_by x k ≤ 126
          · rw [if_pos h126]
            unfold f_SL_type_43 f_SL_type_54
            rw [if_neg hz, zw_of (x := (a : Int) + 1) (by omega) (by omega), show (a : Int) + 1 = ((a + 1 : Nat) : Int) by omega, nx (a + 1) (by omega), hc, hall]
            have := ih k (a + 1) (by omega) (by omega) (by omega)
            constructor
            · rintro ⟨⟨h1, h2⟩, h3⟩
              exact this.1 ⟨h1, by omega⟩
            · intro h
              exact this.2 fun ⟨h1, h3⟩ => h ⟨⟨h1, Or.inr ⟨by omega, by omega⟩⟩, by omega⟩
          · rw [if_neg h126]
            refine ⟨fun h => ?_, fun _ => rfl⟩
            have := (hall.mp h.1).2
            unfold z_okb at this
            omega
