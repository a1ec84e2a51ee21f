/-- the model's stack with one choice more -/
def psC (C G : Nat → Int) (k : Nat) (a b c : Int) : Nat → Int := fun j => if j = 9 * k then a else if j = 9 * k + 1 then b else if j = 9 * k + 2 then c else if 9 * k + 3 ≤ j ∧ j < 9 * k + 9 then G (j - (9 * k + 3)) else C j
section MRun2
variable {L : Nat} {ρ : Nat → Nat → Nat} {μ : Nat → Nat → Int} {st ov mt nc : Int} {G C : Nat → Int}
theorem e_pushL (rm : Rm ρ) {k : Nat} (hk : k < 622) : ∀ (m N g : Nat) (C : Nat → Int), g + m = 6 → m < N → f_Mo_push_40 N 233 (9 * (k : Int)) g (SH L, ρ, MM μ st ov mt k G C) = some (SH L, ρ, MM μ st ov mt ((k : Int) + 1) G (fun j => if 9 * k + 3 + g ≤ j ∧ j < 9 * k + 9 then G (j - (9 * k + 3)) else C j)) := by
  intro m
  induction m with
  | zero =>
    intro N g C hg hN
    obtain ⟨N, rfl⟩ : ∃ x, N = x + 1 := ⟨N - 1, by omega⟩
    unfold f_Mo_push_40
    rw [if_pos (by omega), zgI_k s_233, Option.bind_some, MM_26, zw_of (by omega) (by omega), zpI_k s_233, Option.bind_some, MM_u26]
    congr 4
    funext j
    rw [if_neg (by omega)]
  | succ m ih =>
    intro N g C hg hN
    obtain ⟨N, rfl⟩ : ∃ x, N = x + 1 := ⟨N - 1, by omega⟩
    unfold f_Mo_push_40
    rw [if_neg (by omega), zgR_k s_233 (m_27 rm) (by decide), Option.bind_some, zgR_k s_233 (m_25 rm) (by decide), Option.bind_some, zaI_k s_252 (by omega) (by omega), Option.bind_some, MM_252, zw_of (x := 9 * (k : Int) + 3) (by omega) (by omega), zw_of (x := 9 * (k : Int) + 3 + g) (by omega) (by omega), zsI_k s_253 (by omega) (by omega), Option.bind_some, MM_c, zw_of (by omega) (by omega)]
    have := ih N (g + 1) (ud C (9 * (k : Int) + 3 + g).toNat (G (g : Int).toNat)) (by omega) (by omega)
    rw [show ((g + 1 : Nat) : Int) = (g : Int) + 1 by omega] at this
    rw [this]
    congr 4
    funext j
    unfold ud
    by_cases h1 : 9 * k + 3 + g ≤ j ∧ j < 9 * k + 9
    · rw [if_pos h1]
      by_cases h2 : 9 * k + 3 + (g + 1) ≤ j ∧ j < 9 * k + 9
      · rw [if_pos h2]
      · rw [if_neg h2, if_pos (by omega)]
        congr 1
        omega
    · rw [if_neg h1, if_neg (by omega), if_neg (by omega)]
theorem e_push (rm : Rm ρ) {k : Nat} (hk : k < 622) (a b c : Int) : f_Mo_push 233 a b c (SH L, ρ, MM μ st ov mt k G C) = some (SH L, ρ, MM μ st ov mt ((k + 1 : Nat) : Int) G (psC C G k a b c)) := by
  unfold f_Mo_push
  rw [zgI_k s_233, Option.bind_some, MM_26, zw_of (x := 9 * (k : Int)) (by omega) (by omega), zgR_k s_233 (m_27 rm) (by decide), Option.bind_some, zsI_k s_253 (by omega) (by omega), Option.bind_some, MM_c, zgR_k s_233 (m_27 rm) (by decide), Option.bind_some, zw_of (x := 9 * (k : Int) + 1) (by omega) (by omega), zsI_k s_253 (by omega) (by omega), Option.bind_some, MM_c, zgR_k s_233 (m_27 rm) (by decide), Option.bind_some, zw_of (x := 9 * (k : Int) + 2) (by omega) (by omega), zsI_k s_253 (by omega) (by omega), Option.bind_some, MM_c]
  have := e_pushL (L := L) (ρ := ρ) (μ := μ) (st := st) (ov := ov) (mt := mt) (G := G) rm hk 6 100000 0 (ud (ud (ud C (9 * (k : Int)).toNat a) (9 * (k : Int) + 1).toNat b) (9 * (k : Int) + 2).toNat c) (by omega) (by omega)
  rw [show ((0 : Nat) : Int) = 0 from rfl] at this
  rw [this]
  congr 4
  funext j
  unfold psC ud
  by_cases h0 : j = 9 * k
  · rw [if_pos h0, if_neg (by omega), if_neg (by omega), if_neg (by omega), if_pos (by omega)]
  rw [if_neg h0]
  by_cases h1 : j = 9 * k + 1
  · rw [if_pos h1, if_neg (by omega), if_neg (by omega), if_pos (by omega)]
  rw [if_neg h1]
  by_cases h2 : j = 9 * k + 2
  · rw [if_pos h2, if_neg (by omega), if_pos (by omega)]
  rw [if_neg h2]
  by_cases h3 : 9 * k + 3 ≤ j ∧ j < 9 * k + 9
  · rw [if_pos (by omega), if_pos h3]
  · rw [if_neg (by omega), if_neg h3, if_neg (by omega), if_neg (by omega), if_neg (by omega)]
/-- the groups of the choice k -/
def ppG (C G : Nat → Int) (k : Nat) : Nat → Int := fun j => if j < 6 then C (9 * k + 3 + j) else G j
theorem e_popL (rm : Rm ρ) {c63 : Nat → Int → Int → Int → Int → Int → Int → zH → Option zH} {k : Nat} (hk : k < 622) (a1 a2 a4 a5 a6 a7 : Int) : ∀ (m N g : Nat) (G : Nat → Int), g + m = 6 → m < N → f_Mo_match_530 c63 N 233 a1 a2 a4 a5 a6 a7 (9 * (k : Int)) g (SH L, ρ, MM μ st ov mt nc G C) = c63 233 a1 a2 a4 a5 a6 (zw (a7 + 1)) (SH L, ρ, MM μ st ov mt nc (fun j => if g ≤ j ∧ j < 6 then C (9 * k + 3 + j) else G j) C) := by
  intro m
  induction m with
  | zero =>
    intro N g G hg hN
    obtain ⟨N, rfl⟩ : ∃ x, N = x + 1 := ⟨N - 1, by omega⟩
    unfold f_Mo_match_530 f_Mo_match_562
    rw [if_pos (by omega)]
    congr 4
    funext j
    rw [if_neg (by omega)]
  | succ m ih =>
    intro N g G hg hN
    obtain ⟨N, rfl⟩ : ∃ x, N = x + 1 := ⟨N - 1, by omega⟩
    unfold f_Mo_match_530
    rw [if_neg (by omega), zgR_k s_233 (m_25 rm) (by decide), Option.bind_some, zgR_k s_233 (m_27 rm) (by decide), Option.bind_some, zw_of (x := 9 * (k : Int) + 3) (by omega) (by omega), zw_of (x := 9 * (k : Int) + 3 + g) (by omega) (by omega), zaI_k s_253 (by omega) (by omega), Option.bind_some, MM_253, zsI_k s_252 (by omega) (by omega), Option.bind_some, MM_g, zw_of (x := (g : Int) + 1) (by omega) (by omega)]
    have := ih N (g + 1) (ud G (g : Int).toNat (C (9 * (k : Int) + 3 + g).toNat)) (by omega) (by omega)
    rw [show ((g + 1 : Nat) : Int) = (g : Int) + 1 by omega] at this
    rw [this]
    congr 4
    funext j
    unfold ud
    by_cases h1 : g ≤ j ∧ j < 6
    · rw [if_pos h1]
      by_cases h2 : g + 1 ≤ j ∧ j < 6
      · rw [if_pos h2]
      · rw [if_neg h2, if_pos (by omega)]
        congr 1
        omega
    · rw [if_neg h1, if_neg (by omega), if_neg (by omega)]
theorem inI_01 (at' : Nat → Int) (i ae : Nat) (c : Int) : inI at' i ae c = 0 ∨ inI at' i ae c = 1 := by
  unfold inI
  split
  · split
    · exact Or.inl rfl
    · exact Or.inr rfl
  · split
    · exact Or.inl rfl
    · exact Or.inr rfl
/-- the texts of the model -/
theorem e_refL (rm : Rm ρ) {k t : Nat} (hk : k < 6) (ht : t < 2) (hr : μ 254 t ≤ 24) (len : μ 256 k ≤ 24) (hb : μ 233 0 ≤ 300) :
    ∀ (m N i : Nat) (st he : Int), (i : Int) + m = μ 254 t → m < N → 0 ≤ st → st ≤ μ 233 0 → 0 ≤ he → he ≤ 24 + i → f_Mo_fits_37 N 233 k t he i (SH L, ρ, MM μ st 0 mt nc G C) = some (if (tF (μ 233 0) (μ 256 k) (fun c => μ 257 (24 * k + c)) (fun i => μ 255 (24 * t + i)) m st he i).1 = 0 then -1 else (tF (μ 233 0) (μ 256 k) (fun c => μ 257 (24 * k + c)) (fun i => μ 255 (24 * t + i)) m st he i).2.2.2, (SH L, ρ, MM μ (tF (μ 233 0) (μ 256 k) (fun c => μ 257 (24 * k + c)) (fun i => μ 255 (24 * t + i)) m st he i).2.1 (tF (μ 233 0) (μ 256 k) (fun c => μ 257 (24 * k + c)) (fun i => μ 255 (24 * t + i)) m st he i).2.2.1 mt nc G C)) := by
  intro m
  induction m with
  | zero =>
    intro N i st he hi hN hst hst3 hhe hhe2
    obtain ⟨N, rfl⟩ : ∃ x, N = x + 1 := ⟨N - 1, by omega⟩
    unfold f_Mo_fits_37 tF
    rw [zgR_k s_233 (m_28 rm) (by decide), Option.bind_some, zaI_k s_254 (by omega) (by omega), Option.bind_some, MM_o 254 (by decide) (by decide) (by decide), Int.toNat_natCast, if_pos (by omega), if_neg (show ¬ (1 : Int) = 0 by decide)]
  | succ m ih =>
    intro N i st he hi hN hst hst3 hhe hhe2
    obtain ⟨N, rfl⟩ : ∃ x, N = x + 1 := ⟨N - 1, by omega⟩
    unfold f_Mo_fits_37 tF
    rw [zgR_k s_233 (m_28 rm) (by decide), Option.bind_some, zaI_k s_254 (by omega) (by omega), Option.bind_some, MM_o 254 (by decide) (by decide) (by decide), Int.toNat_natCast, if_neg (show ¬ μ 254 t ≤ (i : Int) by omega), zck_k s_233, Option.bind_some, e_stepM hst (by omega)]
    by_cases hb : st = μ 233 0
    · rw [if_pos hb, if_pos hb, Option.bind_some, if_pos rfl, if_pos rfl]
    · rw [if_neg hb, if_neg hb, Option.bind_some, if_neg (show ¬ (1 : Int) = 0 by decide), zgR_k s_233 (m_32 rm) (by decide), Option.bind_some, zaI_k s_256 (by omega) (by omega), Option.bind_some, MM_o 256 (by decide) (by decide) (by decide), Int.toNat_natCast]
      by_cases hg : μ 256 k ≤ he
      · rw [if_pos hg, if_pos hg, if_pos rfl]
      · rw [if_neg hg, if_neg hg, zgR_k s_233 (m_33 rm) (by decide), Option.bind_some, zw_of (x := 24 * (k : Int)) (by omega) (by omega), zw_of (x := 24 * (k : Int) + he) (by omega) (by omega), zaI_k s_257 (by omega) (by omega), Option.bind_some, MM_o 257 (by decide) (by decide) (by decide), zgR_k s_233 (m_29 rm) (by decide), Option.bind_some, zw_of (x := 24 * (t : Int)) (by omega) (by omega), zw_of (x := 24 * (t : Int) + i) (by omega) (by omega), zaI_k s_255 (by omega) (by omega), Option.bind_some, MM_o 255 (by decide) (by decide) (by decide), show (24 * (k : Int) + he).toNat = 24 * k + he.toNat by omega, show (24 * (t : Int) + i).toNat = 24 * t + i by omega]
        by_cases hm : μ 257 (24 * k + he.toNat) = μ 255 (24 * t + i)
        · rw [if_pos hm, if_pos hm, zw_of (by omega) (by omega), zw_of (by omega) (by omega)]
          exact ih N (i + 1) (st + 1) (he + 1) (by omega) (by omega) (by omega) (by omega) (by omega) (by omega)
        · rw [if_neg hm, if_neg hm, if_pos rfl]
end MRun2
