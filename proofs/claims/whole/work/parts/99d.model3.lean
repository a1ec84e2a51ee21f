section MRun3
variable {L : Nat} {ρ : Nat → Nat → Nat} {μ : Nat → Nat → Int} {st ov mt nc : Int} {G C : Nat → Int}
theorem MM_239 {pt : Nat} : MM μ st ov mt nc G C 239 pt = μ 239 pt := MM_o 239 (by decide) (by decide) (by decide) pt
theorem MM_242 {pt : Nat} : MM μ st ov mt nc G C 242 pt = μ 242 pt := MM_o 242 (by decide) (by decide) (by decide) pt
theorem e_fitsA (rm : Rm ρ) {pt k i ae : Nat} (hpt : pt < 22) (hn : μ 239 pt ≤ 21) (hk : k < 6) (hi : i < 21) (hR : isR (tA μ pt) i = 0) (hae : tA μ pt i = 91 → μ 242 (21 * pt + i) = ae ∧ 0 < ae ∧ ae ≤ 21) (len : μ 256 k ≤ 24) {he : Int} (he0 : 0 ≤ he) (h0 : 0 ≤ st) (h3 : st ≤ 300) :
    f_Mo_fits 233 pt i k he (SH L, ρ, MM μ st ov mt nc G C) = if st = μ 233 0 then some (-1, (SH L, ρ, MM μ st 1 mt nc G C)) else some (mA (tA μ pt) i ae (μ 256 k) (fun c => μ 257 (24 * k + c)) he, (SH L, ρ, MM μ (st + 1) ov mt nc G C)) := by
  unfold f_Mo_fits
  rw [zck_k s_233, Option.bind_some, e_at rm hpt (by rw [MM_239]; exact hn) i rfl, Option.bind_some, zck_k s_233, Option.bind_some, e_isRef rm hpt (by rw [MM_239]; exact hn) i (by omega), Option.bind_some, tA_MM, hR, if_pos rfl, zck_k s_233, Option.bind_some, e_stepM h0 h3]
  by_cases hb : st = μ 233 0
  · rw [if_pos hb, if_pos hb, Option.bind_some, if_pos rfl]
  rw [if_neg hb, if_neg hb, Option.bind_some, if_neg (show ¬ (1 : Int) = 0 by decide)]
  unfold mA
  by_cases h94 : tA μ pt i = 94
  · rw [if_pos h94, if_pos h94]
    unfold f_Mo_fits_132 f_Mo_fits_151
    rw [if_pos h94]
    by_cases hz : he = 0
    · rw [if_pos hz, if_pos hz]
    · rw [if_neg hz, if_neg hz]
  rw [if_neg h94, if_neg h94]
  by_cases h36 : tA μ pt i = 36
  · rw [if_pos h36, if_pos h36]
    unfold f_Mo_fits_132 f_Mo_fits_151
    rw [if_neg h94, zgR_k s_233 (m_32 rm) (by decide), Option.bind_some, zaI_k s_256 (by omega) (by omega), Option.bind_some, MM_o 256 (by decide) (by decide) (by decide), Int.toNat_natCast]
    by_cases hz : he = μ 256 k
    · rw [if_pos hz, if_pos hz]
    · rw [if_neg hz, if_neg hz]
  rw [if_neg h36, if_neg h36, zgR_k s_233 (m_32 rm) (by decide), Option.bind_some, zaI_k s_256 (by omega) (by omega), Option.bind_some, MM_o 256 (by decide) (by decide) (by decide), Int.toNat_natCast]
  by_cases hz : he < μ 256 k
  · rw [if_pos hz, if_pos hz, zgR_k s_233 (m_33 rm) (by decide), Option.bind_some, zw_of (x := 24 * (k : Int)) (by omega) (by omega), zw_of (x := 24 * (k : Int) + he) (by omega) (by omega), zaI_k s_257 (by omega) (by omega), Option.bind_some, MM_o 257 (by decide) (by decide) (by decide), show (24 * (k : Int) + he).toNat = 24 * k + he.toNat by omega]
    unfold f_Mo_fits_246 f_Mo_fits_250 f_Mo_fits_251
    rw [if_pos rfl, if_neg (show ¬ (1 : Int) = 0 by decide), zw_of (x := he + 1) (by omega) (by omega)]
    by_cases h46 : tA μ pt i = 46
    · rw [if_pos h46, if_pos h46, if_neg (show ¬ (1 : Int) = 0 by decide)]
    rw [if_neg h46, if_neg h46]
    by_cases h91 : tA μ pt i = 91
    · obtain ⟨a1, a2, a3⟩ := hae h91
      rw [if_pos h91, if_pos h91, zck_k s_233, Option.bind_some, e_inItems (ae := ae) rm hpt (by rw [MM_239]; exact hn) hi (by rw [MM_242]; exact a1) a2 a3, Option.bind_some, tA_MM]
      by_cases hx : inI (tA μ pt) i ae (μ 257 (24 * k + he.toNat)) = 0
      · rw [if_pos hx, if_pos hx]; rfl
      · rw [if_neg hx, if_neg hx]; rfl
    rw [if_neg h91, if_neg h91]
    by_cases h92 : tA μ pt i = 92
    · rw [if_pos h92, if_pos h92, zck_k s_233, Option.bind_some, zw_of (x := (i : Int) + 1) (by omega) (by omega), e_at rm hpt (by rw [MM_239]; exact hn) (i + 1) (by omega), Option.bind_some, tA_MM]
      by_cases hx : tA μ pt (i + 1) = μ 257 (24 * k + he.toNat)
      · rw [if_pos hx, if_pos hx]; rfl
      · rw [if_neg hx, if_neg hx]; rfl
    rw [if_neg h92, if_neg h92]
    by_cases hx : tA μ pt i = μ 257 (24 * k + he.toNat)
    · rw [if_pos hx, if_pos hx, if_neg (show ¬ (1 : Int) = 0 by decide)]
    · rw [if_neg hx, if_neg hx, if_pos rfl]
  · rw [if_neg hz, if_neg hz]
theorem e_fitsR (rm : Rm ρ) {pt k i t : Nat} (hpt : pt < 22) (hn : μ 239 pt ≤ 21) (hk : k < 6) (hi : i < 21) (hR : isR (tA μ pt) i = 1) (ht : t < 2) (hat : tA μ pt (i + 1) = 49 + t) (hr : μ 254 t ≤ 24) (len : μ 256 k ≤ 24) (hb : μ 233 0 ≤ 300) {he : Int} (he0 : 0 ≤ he) (he2 : he ≤ 24) (h0 : 0 ≤ st) (h3 : st ≤ μ 233 0) {r : Int × Int × Int × Int} (hf : tF (μ 233 0) (μ 256 k) (fun c => μ 257 (24 * k + c)) (fun i => μ 255 (24 * t + i)) (μ 254 t).toNat st he 0 = r) :
    f_Mo_fits 233 pt i k he (SH L, ρ, MM μ st 0 mt nc G C) = some (if r.1 = 0 then -1 else r.2.2.2, (SH L, ρ, MM μ r.2.1 r.2.2.1 mt nc G C)) := by
  subst hf
  unfold f_Mo_fits
  rw [zck_k s_233, Option.bind_some, e_at rm hpt (by rw [MM_239]; exact hn) i rfl, Option.bind_some, zck_k s_233, Option.bind_some, e_isRef rm hpt (by rw [MM_239]; exact hn) i (by omega), Option.bind_some, tA_MM, hR, if_neg (show ¬ (1 : Int) = 0 by decide), zck_k s_233, Option.bind_some, zw_of (x := (i : Int) + 1) (by omega) (by omega), e_at rm hpt (by rw [MM_239]; exact hn) (i + 1) (by omega), Option.bind_some, tA_MM, hat, show (49 + (t : Int) - 49) = t by omega, zw_of (by omega) (by omega)]
  by_cases hp : 0 ≤ μ 254 t
  · have := e_refL (L := L) (ρ := ρ) (G := G) (C := C) (mt := mt) (nc := nc) rm hk ht hr len hb (μ 254 t).toNat 100000 0 st he (by omega) (by omega) h0 h3 he0 (by omega)
    rw [show ((0 : Nat) : Int) = 0 from rfl] at this
    rw [this]
  · rw [show (μ 254 t).toNat = 0 by omega]
    unfold f_Mo_fits_37 tF
    rw [zgR_k s_233 (m_28 rm) (by decide), Option.bind_some, zaI_k s_254 (by omega) (by omega), Option.bind_some, MM_o 254 (by decide) (by decide) (by decide), Int.toNat_natCast, if_pos (by omega), if_neg (show ¬ (1 : Int) = 0 by decide)]
end MRun3
