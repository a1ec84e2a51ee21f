/-! Both searches side by side: what holds at an address x -/
theorem SR_le {τ : Tx} {γ : Gh} {bl len : Int} {W P C : Nat → Int} : ∀ (m w : Nat) (H : Nat → Int), SR τ γ bl len W P C m w H → m ≤ w := by
  intro m
  induction m with
  | zero => intro w H _; omega
  | succ m ih =>
    intro w H hs
    obtain ⟨w', mo, i, pl, h1, -, -, -, -, -, -, -, h9⟩ := hs
    have hl := (gb_some w H h1).1
    have := ih w' _ h9
    simp only at hl
    omega
def StO (κ : Cod) (γ : Gh) (len : Int) (w : Nat) (W P : Nat → Int) : Prop := ∀ k, k < w → -6 ≤ W k ∧ (W k < 0 → -1 ≤ P k ∧ P k ≤ len) ∧ (0 ≤ W k → (k : Int) ≤ 20 * P k + γ.pc κ (W k).toNat)
def bdG (len : Int) (H : Nat → Int) : Prop := ∀ g, g < 6 → -1 ≤ H g ∧ H g ≤ len
theorem bdG_ud {len : Int} {H : Nat → Int} (h : bdG len H) {g : Nat} {x : Int} (h0 : -1 ≤ x) (h1 : x ≤ len) : bdG len (ud H g x) := by
  intro j hj
  unfold ud
  by_cases e : j = g
  · rw [if_pos e]; exact ⟨h0, h1⟩
  · rw [if_neg e]; exact h j hj
theorem gb_bd {κ : Cod} {γ : Gh} {len : Int} {W P : Nat → Int} : ∀ (w : Nat) (H : Nat → Int), StO κ γ len w W P → bdG len H → bdG len (gb W P w H).2 := by
  intro w
  induction w with
  | zero => intro H _ hb; exact hb
  | succ w ih =>
    intro H hs hb
    by_cases hn : W w < 0
    · rw [gb_neg hn]
      have h1 := (hs w (by omega)).2.1 hn
      exact ih _ (fun k hk => hs k (by omega)) (bdG_ud hb h1.1 h1.2)
    · rw [gb_pos hn]
      exact hb
def Cg (κ : Cod) (τ : Tx) (γ : Gh) (bl len : Int) (x : Nat) (he : Int) (m : Nat) (G C : Nat → Int) (w : Nat) (H W P : Nat → Int) : Prop :=
  (0 ≤ bl ∧ bl ≤ he) ∧ he ≤ len ∧ (∀ g, g < 6 → G g = H g) ∧ bdG len H ∧ SR τ γ bl len W P C m w H ∧ (w : Int) ≤ 20 * he + γ.pc κ x ∧ StO κ γ len w W P
section Cgs
variable {κ : Cod} {τ : Tx} {γ : Gh} {bl len he : Int} {x m w : Nat} {G C H W P : Nat → Int}
theorem Cg_up (h : Cg κ τ γ bl len x he m G C w H W P) {y : Nat} (hr : γ.rk x ≤ γ.rk y) : Cg κ τ γ bl len y he m G C w H W P := by
  obtain ⟨h1, h2, h3, h4, h5, h6, h7⟩ := h
  have := pc_le (κ := κ) hr
  exact ⟨h1, h2, h3, h4, h5, by omega, h7⟩
theorem Cg_eat (h : Cg κ τ γ bl len x he m G C w H W P) (hg : cn (γ.pu κ) 41 ≤ 20) {he' : Int} (h1' : he < he') (h2' : he' ≤ len) (y : Nat) : Cg κ τ γ bl len y he' m G C w H W P := by
  obtain ⟨h1, h2, h3, h4, h5, h6, h7⟩ := h
  have := pc_20 hg x
  exact ⟨by omega, h2', h3, h4, h5, by omega, h7⟩
theorem Cg_500 (h : Cg κ τ γ bl len x he m G C w H W P) (hl : len ≤ 24) (hg : cn (γ.pu κ) 41 ≤ 20) : w ≤ 500 ∧ wOk W w := by
  obtain ⟨h1, h2, h3, h4, h5, h6, h7⟩ := h
  have := pc_20 hg x
  exact ⟨by omega, fun k hk => (h7 k hk).1⟩
theorem Cg_499 (h : Cg κ τ γ bl len x he m G C w H W P) (hl : len ≤ 24) (hg : cn (γ.pu κ) 41 ≤ 20) (hz : γ.z ≤ 41) (hx : x < γ.z) (hp : κ.op x = 6 ∨ κ.op x = 8) : w < 500 := by
  obtain ⟨h1, h2, h3, h4, h5, h6, h7⟩ := h
  have := pc_19 hg (x := x) (by unfold Gh.pu; exact decide_eq_true ⟨hx, hp⟩) (by omega)
  omega
theorem Cg_split (h : Cg κ τ γ bl len x he m G C w H W P) (hz : γ.z ≤ 41) {mo1 i1 mo2 i2 : Nat} (hs : SPc κ γ x (γ.nd mo1 i1) (γ.nd mo2 i2)) (ok : okN τ γ mo2 i2) : Cg κ τ γ bl len (γ.nd mo1 i1) he (m + 1) G (psC C G m mo2 i2 he) (w + 1) H (ud W w (γ.nd mo2 i2 : Int)) (ud P w he) := by
  obtain ⟨h1, h2, h3, h4, h5, h6, h7⟩ := h
  obtain ⟨s1, s2, s3, s4, s5, s6, s7, s8⟩ := hs
  have hpu : γ.pu κ x = true := by unfold Gh.pu; exact decide_eq_true ⟨s6, Or.inl s1⟩
  have e1 := pc_lt (κ := κ) s4 hpu (by omega)
  have e2 := pc_lt (κ := κ) s5 hpu (by omega)
  refine ⟨h1, h2, h3, h4, SR_split h5 h3 ok h1.2 h2, by omega, ?_⟩
  intro k hk
  by_cases hkw : k = w
  · subst hkw
    rw [ud_s, ud_s]
    refine ⟨by omega, fun hh => by omega, fun _ => ?_⟩
    rw [Int.toNat_natCast]
    omega
  · rw [ud_n hkw, ud_n hkw]
    exact h7 k (by omega)
theorem Cg_edge (h : Cg κ τ γ bl len x he m G C w H W P) (hz : γ.z ≤ 41) {g : Nat} (hg : g < 6) (hs : GEc κ γ x g) : Cg κ τ γ bl len (x + 1) he m (ud G g he) C (w + 1) (ud H g he) (ud W w (-1 - (g : Int))) (ud P w (H g)) := by
  obtain ⟨h1, h2, h3, h4, h5, h6, h7⟩ := h
  obtain ⟨s1, s2, s3, s4⟩ := hs
  have hpu : γ.pu κ x = true := by unfold Gh.pu; exact decide_eq_true ⟨by omega, Or.inr s1⟩
  have e1 := pc_lt (κ := κ) s3 hpu (by omega)
  refine ⟨h1, h2, ?_, bdG_ud h4 (by omega) h2, SR_edge h5 he, by omega, ?_⟩
  · intro j hj
    unfold ud
    by_cases e : j = g
    · rw [if_pos e, if_pos e]
    · rw [if_neg e, if_neg e]; exact h3 j hj
  · intro k hk
    by_cases hkw : k = w
    · subst hkw
      rw [ud_s, ud_s]
      exact ⟨by omega, fun _ => h4 g hg, fun hh => by omega⟩
    · rw [ud_n hkw, ud_n hkw]
      exact h7 k (by omega)
end Cgs
/-! What runs come to -/
def CR (L : Nat) (ρ : Nat → Nat → Nat) (μ : Nat → Nat → Int) (p l s cm : Nat) (st nx he : Int) (w : Nat) (H W P : Nat → Int) (fin : Nat → Nat → Int) : Prop := ∀ (c28 : Nat → Nat → Nat → Nat → Int → zH → Option zH) (a5 : Int) (N y : Nat), y + cm ≤ 24764 → cm + 1 < N → f_Se_run_81 c28 N 32 p l s a5 1 y (SH L, ρ, SM μ st 0 nx he 0 w H W P) = f_Se_run_110 c28 32 p l s a5 (SH L, ρ, fin)
theorem CR_step {L : Nat} {ρ : Nat → Nat → Nat} {μ : Nat → Nat → Int} {p l s cm cm' w w' : Nat} {st nx he st' nx' he' : Int} {H W P H' W' P' : Nat → Int} {fin : Nat → Nat → Int} (hd : f_Se_doNext 32 p l s (SH L, ρ, SM μ st 0 nx he 0 w H W P) = some (1, (SH L, ρ, SM μ st' 0 nx' he' 0 w' H' W' P'))) (h : CR L ρ μ p l s cm' st' nx' he' w' H' W' P' fin) (hc : cm' + 1 ≤ cm) : CR L ρ μ p l s cm st nx he w H W P fin := by
  intro c28 a5 N y hy hN
  obtain ⟨N, rfl⟩ : ∃ k, N = k + 1 := ⟨N - 1, by omega⟩
  rw [f_Se_run_81]
  show (if (24764 : Int) ≤ (y : Int) then _ else _) = _
  rw [if_neg (by omega), if_neg (by decide), zck_k s_32, Option.bind_some, hd, Option.bind_some, zw_of (by omega) (by omega)]
  have := h c28 a5 N (y + 1) (by omega) (by omega)
  rw [show ((y + 1 : Nat) : Int) = (y : Int) + 1 by omega] at this
  exact this
theorem CR_end {L : Nat} {ρ : Nat → Nat → Nat} {μ : Nat → Nat → Int} {p l s cm w : Nat} {st nx he : Int} {H W P : Nat → Int} {fin : Nat → Nat → Int} (hd : f_Se_doNext 32 p l s (SH L, ρ, SM μ st 0 nx he 0 w H W P) = some (0, (SH L, ρ, fin))) (hc : 1 ≤ cm) : CR L ρ μ p l s cm st nx he w H W P fin := by
  intro c28 a5 N y hy hN
  obtain ⟨N, rfl⟩ : ∃ k, N = k + 1 + 1 := ⟨N - 2, by omega⟩
  rw [f_Se_run_81]
  show (if (24764 : Int) ≤ (y : Int) then _ else _) = _
  rw [if_neg (by omega), if_neg (by decide), zck_k s_32, Option.bind_some, hd, Option.bind_some, f_Se_run_81]
  show (if (24764 : Int) ≤ zw ((y : Int) + 1) then _ else _) = _
  by_cases hh : (24764 : Int) ≤ zw ((y : Int) + 1)
  · rw [if_pos hh]
  · rw [if_neg hh, if_pos rfl]
theorem CR_mono {L : Nat} {ρ : Nat → Nat → Nat} {μ : Nat → Nat → Int} {p l s cm cm' w : Nat} {st nx he : Int} {H W P : Nat → Int} {fin : Nat → Nat → Int} (h : CR L ρ μ p l s cm' st nx he w H W P fin) (hc : cm' ≤ cm) : CR L ρ μ p l s cm st nx he w H W P fin := fun c28 a5 N y hy hN => h c28 a5 N y (by omega) (by omega)
def MR (L : Nat) (ρ : Nat → Nat → Nat) (ν : Nat → Nat → Int) (pt k : Nat) (mt : Int) (mm mo i : Nat) (he st : Int) (m : Nat) (G C : Nat → Int) (fin : Nat → Nat → Int) : Prop := ∀ (N x : Nat), x + mm ≤ 20000 → mm < N → f_Mo_match_63 N 233 pt k he i mo x (SH L, ρ, MM ν st 0 mt m G C) = some (SH L, ρ, fin)
theorem MR_turn {L : Nat} {ρ : Nat → Nat → Nat} {ν : Nat → Nat → Int} {pt k mm mm' mo i mo' i' m m' : Nat} {mt he st he' st' : Int} {G C G' C' : Nat → Int} {fin : Nat → Nat → Int} (ht : ∀ n x : Nat, x < 20000 → f_Mo_match_63 (n + 1) 233 pt k he i mo x (SH L, ρ, MM ν st 0 mt m G C) = f_Mo_match_63 n 233 pt k he' i' mo' ((x + 1 : Nat) : Int) (SH L, ρ, MM ν st' 0 mt m' G' C')) (h : MR L ρ ν pt k mt mm' mo' i' he' st' m' G' C' fin) (hc : mm' + 1 ≤ mm) : MR L ρ ν pt k mt mm mo i he st m G C fin := by
  intro N x hx hN
  obtain ⟨N, rfl⟩ : ∃ k, N = k + 1 := ⟨N - 1, by omega⟩
  rw [ht N x (by omega)]
  exact h N (x + 1) (by omega) (by omega)
