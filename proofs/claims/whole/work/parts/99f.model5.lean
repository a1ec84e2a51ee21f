section MRun5
variable {L : Nat} {ρ : Nat → Nat → Nat} {μ : Nat → Nat → Int} {st ov mt nc he : Int} {G C : Nat → Int} {pt k i n x : Nat}
theorem mt_377 {c63 : Nat → Int → Int → Int → Int → Int → Int → zH → Option zH} (rm : Rm ρ) (hx : x < 20000) (hpt : pt < 22) (hi : i ≤ 20) {m : Nat} (hm : m < 622) {b : Int} (hb : μ 246 (21 * pt + i) = b) : f_Mo_match_377 c63 233 pt k he i x (21 * (pt : Int) + i) (SH L, ρ, MM μ st ov mt m G C) = if b < 0 then c63 233 pt k he ((i + 1 : Nat) : Int) 0 ((x + 1 : Nat) : Int) (SH L, ρ, MM μ st ov mt m G C) else c63 233 pt k he ((i + 1 : Nat) : Int) 0 ((x + 1 : Nat) : Int) (SH L, ρ, MM μ st ov mt ((m + 1 : Nat) : Int) G (psC C G m 3 b he)) := by
  unfold f_Mo_match_377 f_Mo_match_401 f_Mo_match_562
  rw [zgR_k s_233 (m_15 rm) (by decide), Option.bind_some, zaI_k s_246 (by omega) (by omega), Option.bind_some, MM_o 246 (by decide) (by decide) (by decide), show (21 * (pt : Int) + i).toNat = 21 * pt + i by omega, hb, zw_of (x := (x : Int) + 1) (by omega) (by omega), zw_of (x := (i : Int) + 1) (by omega) (by omega)]
  by_cases h : b < 0
  · rw [if_pos h, if_pos h]; rfl
  · rw [if_neg h, if_neg h, Option.bind_some, zaI_k s_246 (by omega) (by omega), Option.bind_some, MM_o 246 (by decide) (by decide) (by decide), show (21 * (pt : Int) + i).toNat = 21 * pt + i by omega, hb, zck_k s_233, Option.bind_some, e_push rm hm, Option.bind_some]
    rfl
theorem mt_branch (rm : Rm ρ) (hx : x < 20000) (hpt : pt < 22) (hi : i ≤ 20) {m : Nat} (hm : m < 622) {b : Int} (hb : μ 246 (21 * pt + i) = b) : f_Mo_match_63 (n + 1) 233 pt k he i 3 x (SH L, ρ, MM μ st ov mt m G C) = if b < 0 then f_Mo_match_63 n 233 pt k he ((i + 1 : Nat) : Int) 0 ((x + 1 : Nat) : Int) (SH L, ρ, MM μ st ov mt m G C) else f_Mo_match_63 n 233 pt k he ((i + 1 : Nat) : Int) 0 ((x + 1 : Nat) : Int) (SH L, ρ, MM μ st ov mt ((m + 1 : Nat) : Int) G (psC C G m 3 b he)) := by
  rw [f_Mo_match_63]
  show (if (20000 : Int) ≤ (x : Int) then _ else _) = _
  unfold f_Mo_match_157 f_Mo_match_191 f_Mo_match_235 f_Mo_match_349 f_Mo_match_355
  rw [if_neg (show ¬ (20000 : Int) ≤ (x : Int) by omega), if_neg (show ¬ (3 : Int) = 5 by decide), if_neg (show ¬ (3 : Int) = 0 by decide), if_neg (show ¬ (3 : Int) = 0 by decide), if_neg (show ¬ (3 : Int) = 2 by decide), if_neg (show ¬ (3 : Int) = 0 by decide), if_neg (show ¬ (3 : Int) = 2 by decide), if_neg (show ¬ (3 : Int) = 1 by decide), if_pos (show (3 : Int) = 3 from rfl), if_neg (show ¬ (3 : Int) = 1 by decide), zw_of (x := 21 * (pt : Int)) (by omega) (by omega), zw_of (x := 21 * (pt : Int) + i) (by omega) (by omega)]
  exact mt_377 rm hx hpt hi hm hb
theorem mt_group (rm : Rm ρ) (hx : x < 20000) (hpt : pt < 22) (hn : μ 239 pt ≤ 21) (hi : i ≤ 20) (hat : tA μ pt i = 40) {m g : Nat} (hm : m < 622) (hg : μ 244 (21 * pt + i) = g) (hg3 : g < 3) {b : Int} (hb : μ 246 (21 * pt + i) = b) : f_Mo_match_63 (n + 1) 233 pt k he i 1 x (SH L, ρ, MM μ st ov mt m G C) = if b < 0 then f_Mo_match_63 n 233 pt k he ((i + 1 : Nat) : Int) 0 ((x + 1 : Nat) : Int) (SH L, ρ, MM μ st ov mt m (ud G (2 * g) he) C) else f_Mo_match_63 n 233 pt k he ((i + 1 : Nat) : Int) 0 ((x + 1 : Nat) : Int) (SH L, ρ, MM μ st ov mt ((m + 1 : Nat) : Int) (ud G (2 * g) he) (psC C (ud G (2 * g) he) m 3 b he)) := by
  rw [f_Mo_match_63]
  show (if (20000 : Int) ≤ (x : Int) then _ else _) = _
  unfold f_Mo_match_157 f_Mo_match_191 f_Mo_match_235 f_Mo_match_355
  rw [if_neg (show ¬ (20000 : Int) ≤ (x : Int) by omega), if_neg (show ¬ (1 : Int) = 5 by decide), if_neg (show ¬ (1 : Int) = 0 by decide), if_neg (show ¬ (1 : Int) = 0 by decide), if_neg (show ¬ (1 : Int) = 2 by decide), if_neg (show ¬ (1 : Int) = 0 by decide), if_neg (show ¬ (1 : Int) = 2 by decide), if_pos (show (1 : Int) = 1 from rfl), zck_k s_233, Option.bind_some, e_at rm hpt (by rw [MM_239]; exact hn) i rfl, Option.bind_some, tA_MM, hat, if_pos (show (40 : Int) = 40 from rfl), if_pos (show (1 : Int) = 1 from rfl), zw_of (x := 21 * (pt : Int)) (by omega) (by omega), zw_of (x := 21 * (pt : Int) + i) (by omega) (by omega), zgR_k s_233 (m_25 rm) (by decide), Option.bind_some, zgR_k s_233 (m_13 rm) (by decide), Option.bind_some, zaI_k s_244 (by omega) (by omega), Option.bind_some, MM_o 244 (by decide) (by decide) (by decide), show (21 * (pt : Int) + i).toNat = 21 * pt + i by omega, hg, zw_of (x := 2 * (g : Int)) (by omega) (by omega), zsI_k s_252 (by omega) (by omega), Option.bind_some, MM_g, show (2 * (g : Int)).toNat = 2 * g by omega]
  exact mt_377 rm hx hpt hi hm hb
theorem mt_atom (rm : Rm ρ) (hx : x < 20000) (hpt : pt < 22) (hn : μ 239 pt ≤ 21) (hi : i ≤ 20) (hat : tA μ pt i ≠ 40) {to : Int} {st' ov' : Int} (hf : f_Mo_fits 233 pt i k he (SH L, ρ, MM μ st ov mt nc G C) = some (to, (SH L, ρ, MM μ st' ov' mt nc G C))) : f_Mo_match_63 (n + 1) 233 pt k he i 1 x (SH L, ρ, MM μ st ov mt nc G C) = if 0 ≤ to then f_Mo_match_63 n 233 pt k to i 2 ((x + 1 : Nat) : Int) (SH L, ρ, MM μ st' ov' mt nc G C) else f_Mo_match_63 n 233 pt k he i 4 ((x + 1 : Nat) : Int) (SH L, ρ, MM μ st' ov' mt nc G C) := by
  rw [f_Mo_match_63]
  show (if (20000 : Int) ≤ (x : Int) then _ else _) = _
  unfold f_Mo_match_157 f_Mo_match_191 f_Mo_match_235 f_Mo_match_349 f_Mo_match_440 f_Mo_match_452 f_Mo_match_562
  rw [if_neg (show ¬ (20000 : Int) ≤ (x : Int) by omega), if_neg (show ¬ (1 : Int) = 5 by decide), if_neg (show ¬ (1 : Int) = 0 by decide), if_neg (show ¬ (1 : Int) = 0 by decide), if_neg (show ¬ (1 : Int) = 2 by decide), if_neg (show ¬ (1 : Int) = 0 by decide), if_neg (show ¬ (1 : Int) = 2 by decide), if_pos (show (1 : Int) = 1 from rfl), zck_k s_233, Option.bind_some, e_at rm hpt (by rw [MM_239]; exact hn) i rfl, Option.bind_some, tA_MM, if_neg hat, if_neg (show ¬ (1 : Int) = 3 by decide), if_pos (show (1 : Int) = 1 from rfl), zck_k s_233, Option.bind_some, hf, Option.bind_some, zw_of (x := (x : Int) + 1) (by omega) (by omega)]
  by_cases h : 0 ≤ to
  · rw [if_pos h, if_pos h, if_pos h]; rfl
  · rw [if_neg h, if_neg h, if_neg h]; rfl
theorem mt_stop (hx : x < 20000) (h : nc = 0 ∨ ov = 1) : f_Mo_match_63 (n + 1) 233 pt k he i 4 x (SH L, ρ, MM μ st ov mt nc G C) = some (SH L, ρ, MM μ st ov (-1) nc G C) := by
  rw [f_Mo_match_63]
  show (if (20000 : Int) ≤ (x : Int) then _ else _) = _
  unfold f_Mo_match_157 f_Mo_match_191 f_Mo_match_235 f_Mo_match_349 f_Mo_match_471
  rw [if_neg (show ¬ (20000 : Int) ≤ (x : Int) by omega), if_neg (show ¬ (4 : Int) = 5 by decide), if_neg (show ¬ (4 : Int) = 0 by decide), if_neg (show ¬ (4 : Int) = 0 by decide), if_neg (show ¬ (4 : Int) = 2 by decide), if_neg (show ¬ (4 : Int) = 0 by decide), if_neg (show ¬ (4 : Int) = 2 by decide), if_neg (show ¬ (4 : Int) = 1 by decide), if_neg (show ¬ (4 : Int) = 3 by decide), if_neg (show ¬ (4 : Int) = 1 by decide), zgI_k s_233, Option.bind_some, MM_26, zpI_k s_233, Option.bind_some, MM_u24]
  by_cases hz : nc = 0
  · rw [if_pos hz]
  · rw [if_neg hz, zgI_k s_233, Option.bind_some, MM_22, if_neg (by omega)]
theorem mt_pop (rm : Rm ρ) (hx : x < 20000) {m : Nat} (hm : m < 622) : f_Mo_match_63 (n + 1) 233 pt k he i 4 x (SH L, ρ, MM μ st 0 mt ((m + 1 : Nat) : Int) G C) = f_Mo_match_63 n 233 pt k (C (9 * m + 2)) (C (9 * m + 1)) (C (9 * m)) ((x + 1 : Nat) : Int) (SH L, ρ, MM μ st 0 mt m (ppG C G m) C) := by
  rw [f_Mo_match_63]
  show (if (20000 : Int) ≤ (x : Int) then _ else _) = _
  unfold f_Mo_match_157 f_Mo_match_191 f_Mo_match_235 f_Mo_match_349
  rw [if_neg (show ¬ (20000 : Int) ≤ (x : Int) by omega), if_neg (show ¬ (4 : Int) = 5 by decide), if_neg (show ¬ (4 : Int) = 0 by decide), if_neg (show ¬ (4 : Int) = 0 by decide), if_neg (show ¬ (4 : Int) = 2 by decide), if_neg (show ¬ (4 : Int) = 0 by decide), if_neg (show ¬ (4 : Int) = 2 by decide), if_neg (show ¬ (4 : Int) = 1 by decide), if_neg (show ¬ (4 : Int) = 3 by decide), if_neg (show ¬ (4 : Int) = 1 by decide), zgI_k s_233, Option.bind_some, MM_26, if_neg (by omega), zgI_k s_233, Option.bind_some, MM_22, if_pos (show (0 : Int) = 0 from rfl), Option.bind_some, zw_of (x := ((m + 1 : Nat) : Int) - 1) (by omega) (by omega), zpI_k s_233, Option.bind_some, MM_u26, zgI_k s_233, Option.bind_some, MM_26, show ((m + 1 : Nat) : Int) - 1 = m by omega, zw_of (x := 9 * (m : Int)) (by omega) (by omega), zw_of (x := 9 * (m : Int) + 1) (by omega) (by omega), zw_of (x := 9 * (m : Int) + 2) (by omega) (by omega), zgR_k s_233 (m_27 rm) (by decide), Option.bind_some, zaI_k s_253 (by omega) (by omega), Option.bind_some, Option.bind_some, zaI_k s_253 (by omega) (by omega), Option.bind_some, Option.bind_some, zaI_k s_253 (by omega) (by omega), Option.bind_some, MM_253, MM_253, MM_253, show (9 * (m : Int)).toNat = 9 * m by omega, show (9 * (m : Int) + 1).toNat = 9 * m + 1 by omega, show (9 * (m : Int) + 2).toNat = 9 * m + 2 by omega]
  have := e_popL (L := L) (ρ := ρ) (μ := μ) (st := st) (ov := 0) (mt := mt) (nc := m) (C := C) rm (c63 := f_Mo_match_63 n) hm pt k (C (9 * m + 2)) (C (9 * m + 1)) (C (9 * m)) x 6 100000 0 G (by omega) (by omega)
  rw [show ((0 : Nat) : Int) = 0 from rfl, zw_of (by omega) (by omega)] at this
  rw [this]
  unfold ppG
  congr 4
  funext j
  by_cases hj : j < 6
  · rw [if_pos (by omega), if_pos hj]
  · rw [if_neg (by omega), if_neg hj]
end MRun5
