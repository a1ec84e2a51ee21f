/-! One place of the line -/
def fill6 (G : Nat → Int) : Nat → Int := fun j => if j < 6 then -1 else G j
section Plc
variable {L : Nat} {ρ : Nat → Nat → Nat} {μ ν : Nat → Nat → Int}
theorem e_fillL {st ov nx he mt wc : Int} {W P : Nat → Int} : ∀ (m N g : Nat) (G : Nat → Int), g + m = 6 → m < N → f_Ar_fill_5 N 33 (-1) g 6 (SH L, ρ, SM μ st ov nx he mt wc G W P) = some (SH L, ρ, SM μ st ov nx he mt wc (fun j => if g ≤ j ∧ j < 6 then -1 else G j) W P) := by
  intro m
  induction m with
  | zero =>
    intro N g G hg hN
    obtain ⟨N, rfl⟩ : ∃ k, N = k + 1 := ⟨N - 1, by omega⟩
    unfold f_Ar_fill_5
    rw [if_pos (by omega)]
    congr 4
    funext j
    rw [if_neg (by omega)]
  | succ m ih =>
    intro N g G hg hN
    obtain ⟨N, rfl⟩ : ∃ k, N = k + 1 := ⟨N - 1, by omega⟩
    unfold f_Ar_fill_5
    rw [if_neg (by omega), zsI_k s_33 (by omega) (by omega), Option.bind_some, SM_g, zw_of (by omega) (by omega)]
    have := ih N (g + 1) (ud G (g : Int).toNat (-1)) (by omega) (by omega)
    rw [show ((g + 1 : Nat) : Int) = (g : Int) + 1 by omega] at this
    rw [this]
    congr 4
    funext j
    unfold ud
    by_cases h1 : g ≤ j ∧ j < 6
    · rw [if_pos h1]
      by_cases h2 : g + 1 ≤ j ∧ j < 6
      · rw [if_pos h2]
      · rw [if_neg h2, if_pos (by omega)]
    · rw [if_neg h1, if_neg (by omega), if_neg (by omega)]
theorem e_fill {st ov nx he mt wc : Int} {G W P : Nat → Int} : f_Ar_fill 33 (-1) (SH L, ρ, SM μ st ov nx he mt wc G W P) = some (SH L, ρ, SM μ st ov nx he mt wc (fill6 G) W P) := by
  unfold f_Ar_fill
  rw [zlen_k s_33 (by decide), Option.bind_some]
  have := e_fillL (L := L) (ρ := ρ) (μ := μ) (st := st) (ov := ov) (nx := nx) (he := he) (mt := mt) (wc := wc) (W := W) (P := P) 6 100000 0 G (by omega) (by omega)
  rw [show ((0 : Nat) : Int) = 0 from rfl] at this
  refine this.trans ?_
  congr 4
  funext j
  unfold fill6
  by_cases h : j < 6
  · rw [if_pos (by omega), if_pos h]
  · rw [if_neg (by omega), if_neg h]
theorem e_match3 (rm : Rm ρ) {pt k : Nat} (hpt : pt < 22) {st ov mt nc pl : Int} {C : Nat → Int} : ∀ (m N g : Nat) (G : Nat → Int), g + m = 6 → m < N → f_Mo_match_3 N 233 pt k pl g (SH L, ρ, MM ν st ov mt nc G C) = if ν 247 pt < 0 then f_Mo_match_60 233 pt k pl 0 0 (SH L, ρ, MM ν st ov mt 0 (fun j => if g ≤ j ∧ j < 6 then -1 else G j) C) else f_Mo_match_60 233 pt k pl 0 0 (SH L, ρ, MM ν st ov mt ((0 + 1 : Nat) : Int) (fun j => if g ≤ j ∧ j < 6 then -1 else G j) (psC C (fun j => if g ≤ j ∧ j < 6 then -1 else G j) 0 3 (ν 247 pt) pl)) := by
  intro m
  induction m with
  | zero =>
    intro N g G hg hN
    obtain ⟨N, rfl⟩ : ∃ k, N = k + 1 := ⟨N - 1, by omega⟩
    unfold f_Mo_match_3
    have e : (fun j => if g ≤ j ∧ j < 6 then -1 else G j) = G := by
      funext j
      rw [if_neg (by omega)]
    rw [e, if_pos (show (6 : Int) ≤ (g : Int) by omega), zpI_k s_233, Option.bind_some, MM_u26, zgR_k s_233 (m_16 rm) (by decide), Option.bind_some, zaI_k s_247 (by omega) (by omega), Option.bind_some, MM_o 247 (by decide) (by decide) (by decide), Int.toNat_natCast]
    by_cases h : ν 247 pt < 0
    · rw [if_pos h, if_pos h]
    · rw [if_neg h, if_neg h, Option.bind_some, zaI_k s_247 (by omega) (by omega), Option.bind_some, MM_o 247 (by decide) (by decide) (by decide), Int.toNat_natCast, zck_k s_233, Option.bind_some]
      have := e_push (L := L) (ρ := ρ) (μ := ν) (st := st) (ov := ov) (mt := mt) (G := G) (C := C) rm (k := 0) (by decide) 3 (ν 247 pt) pl
      rw [show ((0 : Nat) : Int) = 0 from rfl] at this
      rw [this, Option.bind_some]
  | succ m ih =>
    intro N g G hg hN
    obtain ⟨N, rfl⟩ : ∃ k, N = k + 1 := ⟨N - 1, by omega⟩
    unfold f_Mo_match_3
    rw [if_neg (show ¬ (6 : Int) ≤ (g : Int) by omega), zgR_k s_233 (m_25 rm) (by decide), Option.bind_some, zsI_k s_252 (by omega) (by omega), Option.bind_some, MM_g, zw_of (by omega) (by omega)]
    have := ih N (g + 1) (ud G (g : Int).toNat (-1)) (by omega) (by omega)
    rw [show ((g + 1 : Nat) : Int) = (g : Int) + 1 by omega] at this
    have e : (fun j => if g + 1 ≤ j ∧ j < 6 then -1 else ud G (g : Int).toNat (-1) j) = (fun j => if g ≤ j ∧ j < 6 then -1 else G j) := by
      funext j
      unfold ud
      by_cases h1 : g ≤ j ∧ j < 6
      · rw [if_pos h1]
        by_cases h2 : g + 1 ≤ j ∧ j < 6
        · rw [if_pos h2]
        · rw [if_neg h2, if_pos (by omega)]
      · rw [if_neg h1, if_neg (by omega), if_neg (by omega)]
    rw [e] at this
    exact this
theorem e_match (rm : Rm ρ) {pt k : Nat} (hpt : pt < 22) {st ov mt nc pl : Int} {G C : Nat → Int} : f_Mo_match 233 pt k pl (SH L, ρ, MM ν st ov mt nc G C) = if ν 247 pt < 0 then f_Mo_match_63 100000 233 pt k pl 0 0 0 (SH L, ρ, MM ν st ov mt 0 (fill6 G) C) else f_Mo_match_63 100000 233 pt k pl 0 0 0 (SH L, ρ, MM ν st ov mt ((0 + 1 : Nat) : Int) (fill6 G) (psC C (fill6 G) 0 3 (ν 247 pt) pl)) := by
  unfold f_Mo_match
  have := e_match3 (L := L) (ρ := ρ) (ν := ν) (k := k) (st := st) (ov := ov) (mt := mt) (nc := nc) (pl := pl) (C := C) rm hpt 6 100000 0 G (by omega) (by omega)
  have e : (fun j => if 0 ≤ j ∧ j < 6 then -1 else G j) = fill6 G := by
    funext j
    unfold fill6
    by_cases h : j < 6
    · rw [if_pos (by omega), if_pos h]
    · rw [if_neg (by omega), if_neg h]
  rw [e] at this
  exact this
theorem place {p pt l k s : Nat} {en : Bool} {γ : Gh} (S : Sta L ρ μ ν p pt l k s en γ) {st : Nat} (hst : (st : Int) ≤ μ 32 0) {pl : Int} (p0 : 0 ≤ pl) (p1 : pl ≤ μ l 1) {H W P G C : Nat → Int} {mt nc : Int} :
    ∃ fC fM, (∀ c28 : Nat → Nat → Nat → Nat → Int → zH → Option zH, f_Se_run_81 c28 100000 32 p l s pl 1 0 (SH L, ρ, SM μ st 0 0 pl 0 0 (fill6 H) W P) = f_Se_run_110 c28 32 p l s pl (SH L, ρ, fC)) ∧ f_Mo_match 233 pt k pl (SH L, ρ, MM ν st 0 mt nc G C) = some (SH L, ρ, fM) ∧ Out μ ν pl (μ l 1) fC fM := by
  obtain ⟨hz, hpu, h24, hn, h22, rm, b0, b3⟩ := S.z
  obtain ⟨-, -, -, -, -, -, -, ⟨-, -, -, -, hbs, hbr, -⟩, -⟩ := id S
  have hc : Cg (codOf μ p) (txOf ν pt en) γ pl (μ l 1) (γ.bs 0) pl 0 (fill6 G) C 0 (fill6 H) W P := by
    refine ⟨⟨p0, Int.le_refl _⟩, p1, ?_, ?_, rfl, by omega, fun k hk => absurd hk (Nat.not_lt_zero k)⟩
    · intro g hg
      unfold fill6
      rw [if_pos hg, if_pos hg]
    · intro g hg
      unfold fill6
      rw [if_pos hg]
      exact ⟨by omega, by omega⟩
  have hps := ps_63 (τ := txOf ν pt en) (γ := γ) 0 0
  have hph := ph_40 (γ := γ) (γ.bs 0)
  obtain ⟨-, fC, fM, r1, r2, r3⟩ := sim_into (D := γ.ps (txOf ν pt en) 0 0 + 1) S (sim S pl mt 20000) hbr hc hst (by omega) (Nat.le_refl _)
  refine ⟨fC, fM, fun c28 => ?_, ?_, r3⟩
  · have := r1 c28 pl 100000 0 (by omega) (by omega)
    rw [hbs] at this
    exact this
  · rw [e_match rm h22]
    obtain ⟨h0, r2⟩ | ⟨h0, r2⟩ := r2
    · rw [if_pos h0]
      exact r2 100000 0 (by omega) (by omega)
    · rw [if_neg h0]
      exact r2 100000 0 (by omega) (by omega)
end Plc
