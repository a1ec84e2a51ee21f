section Srch
variable {L : Nat} {ρ : Nat → Nat → Nat} {μ ν : Nat → Nat → Int} {p pt l k s : Nat} {en : Bool} {γ : Gh}
theorem run28_turn (rc : Rc ρ) (hl : lnS L l) (hl6 : 36 ≤ l) {st nx he wc pl : Int} {H W P : Nat → Int} (hp : pl ≤ μ l 1) (N : Nat) : f_Se_run_28 (N + 1) 32 p l s pl (SH L, ρ, SM μ st 0 nx he 0 wc H W P) = f_Se_run_81 (f_Se_run_28 N) 100000 32 p l s pl 1 0 (SH L, ρ, SM μ st 0 0 pl 0 0 (fill6 H) W P) := by
  rw [f_Se_run_28]
  show (z_gI _ _ _ _).bind _ = _
  rw [zgI_k hl.1, Option.bind_some, SM_o l (by omega) (by omega) (by omega) (by omega), if_neg (by omega), zgI_k s_32, Option.bind_some, SM_8, if_pos rfl, zgI_k s_32, Option.bind_some, SM_5, if_pos rfl, zgR_k s_32 rc.2.2.2.2.2.1.1 (by decide), Option.bind_some, e_fill, Option.bind_some, zpI_k s_32, Option.bind_some, SM_u11, zpI_k s_32, Option.bind_some, SM_u6, zpI_k s_32, Option.bind_some, SM_u7]
theorem run28_stop (hl : lnS L l) {pl : Int} (h : μ 32 8 ≠ 0 ∨ μ 32 5 ≠ 0 ∨ μ l 1 < pl) (N : Nat) : f_Se_run_28 (N + 1) 32 p l s pl (SH L, ρ, μ) = some (SH L, ρ, μ) := by
  rw [f_Se_run_28]
  show (z_gI _ _ _ _).bind _ = _
  rw [zgI_k hl.1, Option.bind_some]
  by_cases h1 : μ l 1 < pl
  · rw [if_pos h1]
  rw [if_neg h1, zgI_k s_32, Option.bind_some]
  by_cases h2 : μ 32 8 = 0
  · rw [if_pos h2, zgI_k s_32, Option.bind_some, if_neg (by omega)]
  · rw [if_neg h2]
theorem run110 {c28 : Nat → Nat → Nat → Nat → Int → zH → Option zH} {st ov nx he mt wc pl : Int} {H W P : Nat → Int} (h0 : -1 ≤ pl) (h1 : pl ≤ 24) : f_Se_run_110 c28 32 p l s pl (SH L, ρ, SM μ st ov nx he mt wc H W P) = c28 32 p l s (pl + 1) (SH L, ρ, z_up (z_up (SM μ st ov nx he mt wc H W P) 32 2 (if mt = 0 then -1 else pl)) 32 3 (if mt = 0 then -1 else he)) := by
  unfold f_Se_run_110 f_Se_run_124 f_Se_run_143
  rw [zgI_k s_32, Option.bind_some, SM_8, zw_of (x := pl + 1) (by omega) (by omega)]
  by_cases hm : mt = 0
  · rw [if_pos hm, if_pos hm, if_pos hm, zpI_k s_32, Option.bind_some, zgI_k s_32, Option.bind_some, z_up_nj (by decide), SM_8, if_pos hm, zpI_k s_32, Option.bind_some]
  · rw [if_neg hm, if_neg hm, if_neg hm, zpI_k s_32, Option.bind_some, zgI_k s_32, Option.bind_some, z_up_nj (by decide), SM_8, if_neg hm, zgI_k s_32, Option.bind_some, z_up_nj (by decide), SM_7, zpI_k s_32, Option.bind_some]
theorem srch_stop (rm : Rm ρ) (hk : k < 6) {pl : Int} (h : 0 ≤ ν 233 23 ∨ ν 233 22 ≠ 0 ∨ ν 256 k < pl) (N : Nat) : f_Mo_search_18 (N + 1) 233 pt k pl (SH L, ρ, ν) = some (SH L, ρ, ν) := by
  rw [f_Mo_search_18]
  show (z_gR _ _ _ _).bind _ = _
  rw [zgR_k s_233 (m_32 rm) (by decide), Option.bind_some, zaI_k s_256 (by omega) (by omega), Option.bind_some, Int.toNat_natCast]
  by_cases h1 : ν 256 k < pl
  · rw [if_pos h1]
  rw [if_neg h1, zgI_k s_233, Option.bind_some]
  by_cases h2 : 0 ≤ ν 233 23
  · rw [if_pos h2]
  · rw [if_neg h2, zgI_k s_233, Option.bind_some, if_neg (by omega)]
theorem srch_turn (rm : Rm ρ) (hk : k < 6) {pl : Int} (h0 : -1 ≤ pl) (h1 : pl ≤ 24) (hp : pl ≤ ν 256 k) {st mt nc : Int} {G C : Nat → Int} (h23 : ν 233 23 < 0) {st' ov' mto nc' : Int} {G' C' : Nat → Int} (hm : f_Mo_match 233 pt k pl (SH L, ρ, MM ν st 0 mt nc G C) = some (SH L, ρ, MM ν st' ov' mto nc' G' C')) (N : Nat) : f_Mo_search_18 (N + 1) 233 pt k pl (SH L, ρ, MM ν st 0 mt nc G C) = f_Mo_search_18 N 233 pt k (pl + 1) (SH L, ρ, z_up (MM ν st' ov' mto nc' G' C') 233 23 (if mto < 0 then -1 else pl)) := by
  rw [f_Mo_search_18]
  show (z_gR _ _ _ _).bind _ = _
  unfold f_Mo_search_65
  rw [zgR_k s_233 (m_32 rm) (by decide), Option.bind_some, zaI_k s_256 (by omega) (by omega), Option.bind_some, Int.toNat_natCast, MM_o 256 (by decide) (by decide) (by decide), if_neg (by omega), zgI_k s_233, Option.bind_some, MM_23, if_neg (by omega), zgI_k s_233, Option.bind_some, MM_22, if_pos rfl, zck_k s_233, Option.bind_some, hm, Option.bind_some, zgI_k s_233, Option.bind_some, MM_24, zw_of (x := pl + 1) (by omega) (by omega)]
  by_cases h : mto < 0
  · rw [if_pos h, if_pos h, zpI_k s_233, Option.bind_some]
  · rw [if_neg h, if_neg h, zpI_k s_233, Option.bind_some]
end Srch
